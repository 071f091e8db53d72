import java.util.NoSuchElementException;

/** Promises 10 to 20: travellers. */
public final class TravellersTest {
    public static void main(String[] args) {
        traveller();
        travellerAfterOthers();
        travellerOf();
        fee();
        setOut();
        tooWet();
        stopAndGo();
        leave();
        passPlainly();
        carrierSteps();
        donkeyAndWalkerSteps();
        goingBack();
        goingBackToAStone();
        goingBackWhenStopped();
        wetLimits();
        stoves();
        mail();
        crossedIn();
        wetStepsAndKinds();
        Check.end("TravellersTest");
    }

    private static FordToll with(int... loads) {
        FordToll ford = new FordToll();
        for (int load : loads) {
            ford.traveller(load);
        }
        return ford;
    }

    private static int place(FordToll ford, int traveller) {
        return ford.travellerOf(traveller, 3);
    }

    private static int wet(FordToll ford, int traveller) {
        return ford.travellerOf(traveller, 2);
    }

    private static void traveller() {
        FordToll ford = new FordToll();
        Check.fails("10: -1", IllegalArgumentException.class, () -> ford.traveller(-1));
        Check.fails("10: 21", IllegalArgumentException.class, () -> ford.traveller(21));
        int[] loads = {0, 3, 4, 8, 9, 20, 0, 0};
        int[] kinds = {0, 0, 1, 1, 2, 2, 0, 0};
        for (int index = 0; index < 8; index++) {
            Check.is("10: number", ford.traveller(loads[index]), index);
            Check.is("10: kind", ford.travellerOf(index, 0), kinds[index]);
            Check.is("10: load", ford.travellerOf(index, 1), loads[index]);
        }
        Check.refused("10: a ninth", ford, 1, 8, () -> ford.traveller(0));
        Check.fails("10: load first", IllegalArgumentException.class, () -> ford.traveller(21));
        ford.leave(3);
        Check.is("10: after one left", ford.traveller(5), 7);
        Check.is("10: a new one is dry", wet(ford, 7), 0);
    }

    /** The one who left was wet, had crossed and was followed by one who was stopped: nothing of them is on the new one. */
    private static void travellerAfterOthers() {
        FordToll ford = with(0, 0);
        ford.height(9, 5);
        ford.setOut(0);
        ford.setOut(1);
        ford.pass(11);
        ford.height(9, 6);
        ford.setOut(1);
        ford.pass(1);
        ford.stop(1);
        ford.leave(0);
        Check.is("10: in the place of another", ford.traveller(1), 1);
        int[] fresh = {0, 1, 0, -1, 0, 1, 0, 0, 0};
        for (int what = 0; what <= 8; what++) {
            Check.is("10: fresh, " + what, ford.travellerOf(1, what), fresh[what]);
        }
    }

    private static void travellerOf() {
        FordToll ford = with(2);
        int[] atFirst = {0, 2, 0, -1, 0, 1, 0, 0, 0};
        for (int what = 0; what <= 8; what++) {
            Check.is("11: at first " + what, ford.travellerOf(0, what), atFirst[what]);
        }
        ford.letters(50);
        ford.setOut(0);
        ford.stop(0);
        int[] stopped = {0, 2, 0, -1, 1, 1, 1, 0, 6};
        for (int what = 0; what <= 8; what++) {
            Check.is("11: stopped " + what, ford.travellerOf(0, what), stopped[what]);
        }
        ford.go(0);
        ford.pass(11);
        int[] over = {0, 2, 0, 10, 0, 0, 0, 1, 0};
        for (int what = 0; what <= 8; what++) {
            Check.is("11: over " + what, ford.travellerOf(0, what), over[what]);
        }
        Check.fails("11: -1", IndexOutOfBoundsException.class, () -> ford.travellerOf(-1, 0));
        Check.fails("11: 1", IndexOutOfBoundsException.class, () -> ford.travellerOf(1, 9));
        Check.fails("11: what -1", IllegalArgumentException.class, () -> ford.travellerOf(0, -1));
        Check.fails("11: what 9", IllegalArgumentException.class, () -> ford.travellerOf(0, 9));
    }

    private static void fee() {
        FordToll ford = with(0, 3, 4, 5, 8, 9, 10, 20);
        int[] fees = {2, 2, 2, 3, 3, 5, 6, 8};
        for (int index = 0; index < 8; index++) {
            Check.is("12: fee " + index, ford.fee(index), fees[index]);
        }
        Check.is("12: the chest stays", ford.account(12), 0);
        Check.fails("12: -1", IndexOutOfBoundsException.class, () -> ford.fee(-1));
        Check.fails("12: 8", IndexOutOfBoundsException.class, () -> ford.fee(8));
    }

    private static void setOut() {
        FordToll ford = with(0, 20);
        Check.is("13: fee", ford.setOut(1), 8);
        Check.is("13: chest", ford.account(12), 8);
        Check.is("13: out", ford.travellerOf(1, 4), 1);
        Check.is("13: still there", place(ford, 1), -1);
        Check.refused("13: twice", ford, 2, -1, () -> ford.setOut(1));
        ford.pass(4);
        Check.refused("13: on a stone", ford, 2, 3, () -> ford.setOut(1));
        Check.is("13: chest after refusals", ford.account(12), 8);
        Check.fails("13: 2", IndexOutOfBoundsException.class, () -> ford.setOut(2));
        Check.fails("13: -1", IndexOutOfBoundsException.class, () -> ford.setOut(-1));
    }

    /** Stones awash up to one that is under; the wet of whoever waits there is 4, 6, .. and at most 20. */
    private static FordToll soaked(int hours) {
        FordToll ford = with(0);
        ford.height(0, 5);
        ford.height(1, 3);
        ford.setOut(0);
        ford.pass(hours);
        return ford;
    }

    private static void tooWet() {
        FordToll ford = soaked(7);
        Check.is("13: wet", wet(ford, 0), 14);
        ford.rain(4);
        ford.pass(1);
        Check.is("13: back, and dried", wet(ford, 0), 16);
        Check.is("13: not out", ford.travellerOf(0, 4), 0);
        Check.refused("13: too wet", ford, 4, 16, () -> ford.setOut(0));
        ford.pass(1);
        Check.refused("13: still too wet", ford, 4, 13, () -> ford.setOut(0));
        ford.pass(1);
        Check.is("13: dry enough", ford.setOut(0), 2);
        FordToll edge = soaked(3);
        edge.rain(4);
        edge.pass(1);
        Check.is("13: 6 and 5 less 3", wet(edge, 0), 8);
        FordToll twelve = soaked(5);
        twelve.rain(4);
        twelve.pass(1);
        Check.refused("13: at 12", twelve, 4, 12, () -> twelve.setOut(0));
    }

    private static void stopAndGo() {
        FordToll ford = with(0, 0);
        Check.refused("14: not out", ford, 3, -1, () -> ford.stop(1));
        Check.refused("15: not out", ford, 3, -1, () -> ford.go(1));
        ford.setOut(1);
        Check.refused("15: not stopped", ford, 7, 1, () -> ford.go(1));
        ford.pass(2);
        Check.is("14: place", ford.stop(1), 1);
        Check.refused("14: stopped already", ford, 7, 1, () -> ford.stop(1));
        ford.pass(3);
        Check.is("14: waits", place(ford, 1), 1);
        Check.is("15: place", ford.go(1), 1);
        ford.pass(1);
        Check.is("15: goes on", place(ford, 1), 2);
        ford.pass(8);
        Check.refused("14: over", ford, 3, 10, () -> ford.stop(1));
        Check.refused("15: over", ford, 3, 10, () -> ford.go(1));
        Check.fails("14: 2", IndexOutOfBoundsException.class, () -> ford.stop(2));
        Check.fails("14: -1", IndexOutOfBoundsException.class, () -> ford.stop(-1));
        Check.fails("15: 2", IndexOutOfBoundsException.class, () -> ford.go(2));
        Check.fails("15: -1", IndexOutOfBoundsException.class, () -> ford.go(-1));
    }

    private static void leave() {
        FordToll ford = with(1, 4, 9, 2);
        ford.setOut(0);
        ford.setOut(2);
        ford.pass(11);
        ford.setOut(2);
        ford.pass(1);
        Check.refused("16: out", ford, 2, 9, () -> ford.leave(2));
        Check.is("16: asked", Check.ask(ford, "load>3"), 2);
        Check.is("16: crossed", ford.leave(0), 1);
        Check.is("16: the answer stays", Check.answered(ford), "1 2");
        Check.is("16: fewer", ford.account(3), 3);
        Check.is("16: the later ones", ford.travellerOf(0, 1), 4);
        Check.is("16: the one on a stone", place(ford, 1), 9);
        Check.is("16: the last", ford.travellerOf(2, 1), 2);
        Check.is("16: the last, too", ford.leave(2), 0);
        Check.is("16: the crossings stay", ford.account(13), 2);
        Check.fails("16: gone", IndexOutOfBoundsException.class, () -> ford.leave(2));
        Check.fails("16: -1", IndexOutOfBoundsException.class, () -> ford.leave(-1));
    }

    private static void passPlainly() {
        FordToll ford = with(0, 5, 12);
        for (int index = 0; index < 3; index++) {
            ford.setOut(index);
        }
        Check.is("17: ten hours", ford.pass(10), 0);
        Check.is("17: last stone", place(ford, 2), 9);
        Check.is("17: over", ford.pass(1), 3);
        Check.is("17: hour", ford.account(0), 11);
        Check.is("17: one change", ford.account(18), 8);
        Check.is("17: a day", ford.pass(24), 0);
        Check.is("17: nobody goes by themselves", ford.account(6), 3);
        Check.fails("17: 0", IllegalArgumentException.class, () -> ford.pass(0));
        Check.fails("17: 25", IllegalArgumentException.class, () -> ford.pass(25));
        Check.is("17: hour after wrong calls", ford.account(0), 35);
        ford.setOut(1);
        Check.is("17: back again", ford.pass(24), 1);
        Check.is("17: on the near bank", place(ford, 1), -1);
        Check.is("17: twice", ford.travellerOf(1, 7), 2);
        Check.is("17: and would go far", ford.travellerOf(1, 5), 1);
    }

    private static void carrierSteps() {
        FordToll ford = with(4);
        Check.setHeights(ford, 4, 5, 5, 4);
        ford.setOut(0);
        ford.pass(1);
        Check.is("17: carrier from the bank", place(ford, 0), 0);
        ford.pass(1);
        Check.is("17: carrier to a higher one", place(ford, 0), 1);
        ford.pass(1);
        Check.is("17: carrier to one as high", place(ford, 0), 2);
        ford.pass(1);
        Check.is("17: carrier waits before a lower one", place(ford, 0), 2);
        Check.is("17: and gets wet", wet(ford, 0), 8);
        ford.height(3, 7);
        ford.pass(1);
        Check.is("17: carrier to a dry one", place(ford, 0), 3);
        Check.is("17: and gets drier", wet(ford, 0), 7);
        FordToll lowerDry = with(4);
        lowerDry.height(1, 7);
        lowerDry.setOut(0);
        lowerDry.pass(2);
        Check.is("17: carrier to a lower dry one", place(lowerDry, 0), 1);
    }

    private static void donkeyAndWalkerSteps() {
        FordToll ford = with(9, 3);
        Check.setHeights(ford, 10, 6, 4, 3);
        ford.setOut(0);
        ford.setOut(1);
        ford.pass(4);
        Check.is("17: a donkey waits before one awash", place(ford, 0), 0);
        Check.is("17: a walker waits before one under", place(ford, 1), 2);
        ford.height(1, 7);
        ford.pass(1);
        Check.is("17: a donkey goes onto a dry one", place(ford, 0), 1);
        FordToll bank = with(9);
        bank.height(0, 6);
        bank.setOut(0);
        bank.pass(1);
        Check.is("17: a donkey waits on the bank", place(bank, 0), -1);
        Check.is("17: and has set out", bank.travellerOf(0, 4), 1);
    }

    private static void goingBack() {
        FordToll ford = with(0, 4);
        ford.setOut(0);
        ford.setOut(1);
        ford.pass(2);
        ford.stop(1);
        ford.rain(9);
        ford.pass(1);
        Check.is("17: all are under", ford.under(), 1023);
        for (int index = 0; index < 2; index++) {
            Check.is("17: on the bank", place(ford, index), -1);
            Check.is("17: 5 wet, less 3", wet(ford, index), 2);
            Check.is("17: not out", ford.travellerOf(index, 4), 0);
            Check.is("17: not stopped", ford.travellerOf(index, 6), 0);
            Check.is("17: not crossed", ford.travellerOf(index, 7), 0);
            Check.is("17: the same way", ford.travellerOf(index, 5), 1);
        }
        Check.is("17: went back", ford.account(14), 2);
        Check.is("17: no fee back", ford.account(12), 4);
        Check.is("17: none crossed", ford.account(13), 0);
        goingBackToTheFarBank();
    }

    private static void goingBackToTheFarBank() {
        FordToll ford = with(0);
        ford.setOut(0);
        ford.pass(11);
        ford.setOut(0);
        ford.pass(3);
        ford.rain(9);
        ford.pass(1);
        Check.is("17: on the far bank", place(ford, 0), 10);
        Check.is("17: and would go near", ford.travellerOf(0, 5), 0);
        Check.is("17: crossed once", ford.travellerOf(0, 7), 1);
    }

    private static void goingBackToAStone() {
        FordToll ford = with(0);
        Check.setHeights(ford, 30, 13);
        ford.setOut(0);
        ford.pass(4);
        Check.is("17: on 3", place(ford, 0), 3);
        ford.rain(9);
        ford.pass(1);
        Check.is("17: back over one under, to one awash", place(ford, 0), 1);
        Check.is("17: 5 and 2 wet", wet(ford, 0), 7);
        Check.is("17: still out", ford.travellerOf(0, 4), 1);
        ford.pass(1);
        Check.is("17: back to a dry one", place(ford, 0), 0);
        Check.is("17: 5 wet, 1 less", wet(ford, 0), 11);
        Check.is("17: twice", ford.account(14), 2);
        ford.rain(0);
        ford.pass(5);
        Check.is("17: goes on when the flood is 12, 10 and 8", place(ford, 0), 3);
        farWay();
    }

    private static void farWay() {
        FordToll ford = with(0);
        ford.height(9, 30);
        ford.setOut(0);
        ford.pass(11);
        ford.setOut(0);
        ford.pass(4);
        Check.is("17: on 6", place(ford, 0), 6);
        ford.rain(9);
        ford.pass(1);
        Check.is("17: back is the other way", place(ford, 0), 9);
    }

    private static void goingBackWhenStopped() {
        FordToll ford = with(0);
        ford.height(0, 30);
        ford.setOut(0);
        ford.pass(2);
        ford.stop(0);
        ford.rain(9);
        ford.pass(1);
        Check.is("17: goes back all the same", place(ford, 0), 0);
        Check.is("17: and stays stopped", ford.travellerOf(0, 6), 1);
        ford.rain(0);
        ford.pass(4);
        Check.is("17: and waits", place(ford, 0), 0);
    }

    private static void wetLimits() {
        FordToll ford = soaked(24);
        Check.is("17: at most 20", wet(ford, 0), 20);
        ford.rain(4);
        ford.pass(1);
        Check.is("17: at most 20 by going back, less 3", wet(ford, 0), 17);
        FordToll dry = with(0);
        dry.setOut(0);
        dry.pass(3);
        Check.is("17: not below 0", wet(dry, 0), 0);
    }

    private static void stoves() {
        FordToll ford = with(0, 0, 0, 0);
        Check.setHeights(ford, 5, 5, 3);
        ford.setOut(1);
        ford.pass(1);
        ford.setOut(0);
        ford.setOut(2);
        ford.pass(1);
        ford.setOut(3);
        ford.pass(1);
        int[] soaked = {4, 6, 4, 2};
        for (int index = 0; index < 4; index++) {
            Check.is("17: soaked " + index, wet(ford, index), soaked[index]);
        }
        ford.rain(4);
        ford.pass(1);
        int[] back = {6, 8, 9, 7};
        for (int index = 0; index < 4; index++) {
            Check.is("17: the two with the most wet, the lowest " + index, wet(ford, index), back[index]);
        }
        ford.pass(1);
        int[] later = {6, 5, 6, 7};
        for (int index = 0; index < 4; index++) {
            Check.is("17: chosen anew " + index, wet(ford, index), later[index]);
        }
        ford.setOut(3);
        ford.pass(1);
        int[] waiting = {3, 5, 3, 7};
        for (int index = 0; index < 4; index++) {
            Check.is("17: no stove for who has set out " + index, wet(ford, index), waiting[index]);
        }
        ford.pass(1);
        Check.is("17: down to 0", wet(ford, 0), 0);
        stoveOfTheFarBank();
    }

    private static void stoveOfTheFarBank() {
        FordToll ford = with(0);
        ford.height(9, 5);
        ford.height(8, 5);
        ford.setOut(0);
        ford.pass(10);
        Check.is("17: wet on the last stones", wet(ford, 0), 4);
        ford.pass(1);
        Check.is("17: dried in the hour of coming", wet(ford, 0), 1);
        ford.pass(1);
        Check.is("17: not below 0 by the stove", wet(ford, 0), 0);
    }

    private static void mail() {
        FordToll ford = with(0, 3, 4, 1);
        ford.letters(23);
        ford.setOut(2);
        Check.is("13: a carrier takes no letters", ford.travellerOf(2, 8), 0);
        ford.setOut(0);
        ford.setOut(1);
        ford.setOut(3);
        Check.is("13: 12 letters", ford.travellerOf(0, 8), 12);
        Check.is("13: 3 letters", ford.travellerOf(1, 8), 3);
        Check.is("13: all that there are", ford.travellerOf(3, 8), 8);
        ford.pass(11);
        Check.is("17: left on the far bank", ford.account(10), 23);
        ford.letters(9);
        ford.setOut(0);
        Check.is("13: none from the far bank", ford.travellerOf(0, 8), 0);
        Check.is("13: the bag stays", ford.account(8), 9);
        ford.pass(11);
        Check.is("17: the bag stays", ford.account(8), 9);
        ford.setOut(0);
        ford.pass(2);
        ford.rain(9);
        ford.pass(1);
        Check.is("17: letters come back", ford.account(8), 9);
        Check.is("17: none are with walkers", ford.account(9), 0);
    }

    private static void crossedIn() {
        FordToll ford = with(0, 0, 9);
        Check.fails("18: not out", NoSuchElementException.class, () -> ford.crossedIn(0));
        ford.setOut(0);
        Check.is("18: 11", ford.crossedIn(0), 11);
        ford.pass(10);
        Check.is("18: 1", ford.crossedIn(0), 1);
        ford.stop(0);
        Check.fails("18: stopped", NoSuchElementException.class, () -> ford.crossedIn(0));
        ford.go(0);
        ford.pass(1);
        Check.fails("18: over", NoSuchElementException.class, () -> ford.crossedIn(0));
        ford.setOut(1);
        ford.pass(4);
        ford.rain(3);
        Check.fails("18: goes back to the bank", NoSuchElementException.class, () -> ford.crossedIn(1));
        ford.rain(0);
        ford.height(8, 3);
        Check.fails("18: waits for ever", NoSuchElementException.class, () -> ford.crossedIn(1));
        Check.fails("18: -1", IndexOutOfBoundsException.class, () -> ford.crossedIn(-1));
        Check.fails("18: 3", IndexOutOfBoundsException.class, () -> ford.crossedIn(3));
        Check.is("18: nothing goes by", ford.account(0), 15);
        waitForTheFlood();
    }

    private static void waitForTheFlood() {
        FordToll ford = with(0);
        ford.rain(9);
        ford.pass(5);
        ford.rain(1);
        ford.setOut(0);
        Check.is("18: when 38 is 10, and 10 more", ford.crossedIn(0), 38);
        ford.pass(24);
        Check.is("18: 24 less", ford.crossedIn(0), 14);
        Check.is("17: as told", ford.pass(13), 0);
        Check.is("17: as told at last", ford.pass(1), 1);
    }

    private static void wetStepsAndKinds() {
        FordToll ford = new FordToll();
        for (int kind = 0; kind <= 2; kind++) {
            Check.is("19: none", ford.wetSteps(kind), 0);
        }
        Check.is("20: all", ford.kinds(), 7);
        Check.setHeights(ford, 4, 5, 6, 6);
        Check.is("19: walker", ford.wetSteps(0), 4);
        Check.is("19: carrier", ford.wetSteps(1), 4);
        Check.fails("19: donkey", NoSuchElementException.class, () -> ford.wetSteps(2));
        Check.is("20: walker and carrier", ford.kinds(), 3);
        ford.height(9, 6);
        Check.fails("19: carrier down to one awash", NoSuchElementException.class, () -> ford.wetSteps(1));
        Check.is("19: walker still", ford.wetSteps(0), 5);
        Check.is("20: walker", ford.kinds(), 1);
        ford.height(9, 10);
        ford.height(4, 6);
        ford.height(3, 5);
        Check.fails("19: carrier down by 1", NoSuchElementException.class, () -> ford.wetSteps(1));
        ford.height(5, 3);
        Check.fails("19: walker", NoSuchElementException.class, () -> ford.wetSteps(0));
        Check.is("20: none", ford.kinds(), 0);
        Check.fails("19: -1", IllegalArgumentException.class, () -> ford.wetSteps(-1));
        Check.fails("19: 3", IllegalArgumentException.class, () -> ford.wetSteps(3));
    }
}
