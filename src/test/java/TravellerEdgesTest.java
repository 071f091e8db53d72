import java.util.NoSuchElementException;

/** The edges in the promises 10 to 20. */
public final class TravellerEdgesTest {
    private static final int[] NO_LOADS = {-1, 21, Integer.MIN_VALUE, Integer.MAX_VALUE};

    public static void main(String[] args) {
        fullHouse();
        inPlaceOfOthers();
        noSuchTraveller();
        travellerOf();
        setOut();
        setOutTooWetAndOut();
        stop();
        go();
        stoppedOnEachPlace();
        leave();
        leaveRefused();
        leaveFirstAndLast();
        crossedInFromEachPlace();
        crossedInNear();
        crossedInLongest();
        crossedInNever();
        crossedInAfterGoingBack();
        wetSteps();
        wetStepsOfCarriers();
        noWetSteps();
        kinds();
        Check.end("TravellerEdgesTest");
    }

    private static void fullHouse() {
        FordToll ford = new FordToll();
        for (int traveller = 0; traveller < 8; traveller++) {
            Check.is("10: the number is the next one", ford.traveller(traveller), traveller);
            Check.is("28: 3", ford.account(3), traveller + 1);
        }
        for (int load = 0; load <= 20; load += 20) {
            int ninth = load;
            Check.refusedAndKeeps("10: reason 1, a ninth", Scenes::fullHouse, 1, 8, toll -> toll.traveller(ninth));
        }
        for (int load : NO_LOADS) {
            Check.failsAndKeeps("10: the load " + load, FordToll::new, IllegalArgumentException.class,
                toll -> toll.traveller(load));
            Check.failsAndKeeps("10: the load is looked at before the full house, " + load, Scenes::fullHouse,
                IllegalArgumentException.class, toll -> toll.traveller(load));
        }
        ford.leave(7);
        Check.is("10: a place is free again", ford.traveller(20), 7);
        Check.is("11: 1, of the new one", ford.travellerOf(7, 1), 20);
    }

    private static void isFresh(String what, FordToll ford, int traveller) {
        Check.is("10: the number, " + what, ford.traveller(2), traveller);
        int[] due = {0, 2, 0, -1, 0, 1, 0, 0, 0};
        for (int of = 0; of <= 8; of++) {
            Check.is("10: fresh, " + of + ", " + what, ford.travellerOf(traveller, of), due[of]);
        }
    }

    /** The last one has each number unlike those of a new traveller; then the first leaves, and a new one comes last. */
    private static void inPlaceOfOthers() {
        FordToll far = Scenes.with(20, 3);
        far.height(9, 6);
        far.setOut(1);
        far.pass(11);
        far.setOut(1);
        far.pass(1);
        far.stop(1);
        Check.is("11: 2, wet on the last stone", Scenes.wet(far, 1), 2);
        far.leave(0);
        isFresh("after who crossed", far, 1);
        FordToll near = Scenes.with(20, 0);
        near.letters(50);
        near.setOut(1);
        near.stop(1);
        near.leave(0);
        isFresh("after who has letters", near, 1);
        near.undo();
        near.undo();
        near.undo();
        near.undo();
        near.undo();
        near.undo();
        isFresh("in place of who was undone", near, 1);
        FordToll restored = Scenes.with(20);
        restored.save();
        restored.traveller(0);
        restored.letters(50);
        restored.setOut(1);
        restored.pass(5);
        restored.stop(1);
        restored.restore();
        isFresh("in place of who was not saved", restored, 1);
    }

    private static FordToll two() {
        FordToll ford = Scenes.with(2, 15);
        ford.letters(5);
        ford.setOut(1);
        return ford;
    }

    private static void noSuchTraveller() {
        for (int none : new int[] {-1, 2, 7, 8, Integer.MIN_VALUE, Integer.MAX_VALUE}) {
            Class<IndexOutOfBoundsException> due = IndexOutOfBoundsException.class;
            Check.failsAndKeeps("11: traveller " + none, TravellerEdgesTest::two, due, ford -> ford.travellerOf(none, 0));
            Check.failsAndKeeps("11: the traveller is looked at first, " + none, TravellerEdgesTest::two, due,
                ford -> ford.travellerOf(none, 9));
            Check.failsAndKeeps("12: traveller " + none, TravellerEdgesTest::two, due, ford -> ford.fee(none));
            Check.failsAndKeeps("13: traveller " + none, TravellerEdgesTest::two, due, ford -> ford.setOut(none));
            Check.failsAndKeeps("14: traveller " + none, TravellerEdgesTest::two, due, ford -> ford.stop(none));
            Check.failsAndKeeps("15: traveller " + none, TravellerEdgesTest::two, due, ford -> ford.go(none));
            Check.failsAndKeeps("16: traveller " + none, TravellerEdgesTest::two, due, ford -> ford.leave(none));
            Check.failsAndKeeps("18: traveller " + none, TravellerEdgesTest::two, due, ford -> ford.crossedIn(none));
        }
        for (int none : new int[] {8, 9}) {
            Check.failsAndKeeps("11: beyond the full house, " + none, Scenes::fullHouse, IndexOutOfBoundsException.class,
                ford -> ford.travellerOf(none, 0));
        }
        Check.is("12: the last one of the full house", Scenes.fullHouse().fee(7), 8);
    }

    private static void travellerOf() {
        for (int what : new int[] {-1, 9, Integer.MIN_VALUE, Integer.MAX_VALUE}) {
            Check.failsAndKeeps("11: what " + what, TravellerEdgesTest::two, IllegalArgumentException.class,
                ford -> ford.travellerOf(1, what));
        }
        FordToll ford = two();
        ford.height(0, 7);
        ford.setOut(0);
        ford.pass(1);
        ford.stop(0);
        int[] walker = {0, 2, 0, 0, 1, 1, 1, 0, 5};
        int[] donkey = {2, 15, 0, 0, 1, 1, 0, 0, 0};
        for (int what = 0; what <= 8; what++) {
            Check.is("11: walker, " + what, ford.travellerOf(0, what), walker[what]);
            Check.is("11: donkey, " + what, ford.travellerOf(1, what), donkey[what]);
        }
        Check.is("11: 8, where the bag had fewer than 6", ford.account(8), 0);
    }

    private static FordToll outOn(int hours) {
        FordToll ford = Scenes.with(6);
        ford.setOut(0);
        if (hours > 0) {
            ford.pass(hours);
        }
        return ford;
    }

    private static void setOut() {
        for (int place = -1; place <= 9; place++) {
            int hours = place + 1;
            Check.refusedAndKeeps("13: reason 2 on " + place, () -> outOn(hours), 2, place, ford -> ford.setOut(0));
        }
        FordToll far = outOn(11);
        Check.is("13: from the far bank", far.setOut(0), 3);
        Check.refused("13: reason 2 on the far bank", far, 2, 10, () -> far.setOut(0));
        Check.is("28: 12, two fees", far.account(12), 6);
        Check.is("13: no hour goes by", far.account(0), 11);
    }

    /** Too wet, and out: the reason 2 comes before the reason 4. */
    private static FordToll wetAndOut() {
        FordToll ford = Scenes.with(0, 0);
        Check.setHeights(ford, 4, 3);
        ford.setOut(1);
        ford.pass(6);
        return ford;
    }

    private static void setOutTooWetAndOut() {
        Check.is("Terms, Boots: 12 wet on a stone", Scenes.wet(wetAndOut(), 1), 12);
        Check.refusedAndKeeps("13: reason 2 before reason 4", TravellerEdgesTest::wetAndOut, 2, 0, ford -> ford.setOut(1));
    }

    private static FordToll stoppedAt(int hours) {
        FordToll ford = Scenes.with(20, 6);
        ford.setOut(1);
        if (hours > 0) {
            ford.pass(hours);
        }
        ford.stop(1);
        return ford;
    }

    private static void stop() {
        Check.refusedAndKeeps("14: reason 3 on the near bank", Scenes::fullHouse, 3, -1, ford -> ford.stop(0));
        Check.refusedAndKeeps("14: reason 3 on the far bank", () -> outOn(11), 3, 10, ford -> ford.stop(0));
        Check.refusedAndKeeps("14: reason 7 on the bank", () -> stoppedAt(0), 7, 1, ford -> ford.stop(1));
        Check.refusedAndKeeps("14: reason 7 on the last stone", () -> stoppedAt(10), 7, 1, ford -> ford.stop(1));
        FordToll ford = stoppedAt(3);
        Check.is("14: stopped", ford.travellerOf(1, 6), 1);
        ford.pass(24);
        Check.is("14: waits", Scenes.place(ford, 1), 2);
        Check.is("14: has set out still", ford.travellerOf(1, 4), 1);
        Check.refused("13: reason 2 of who is stopped", ford, 2, 2, () -> ford.setOut(1));
        Check.refused("16: reason 2 of who is stopped", ford, 2, 2, () -> ford.leave(1));
    }

    private static void go() {
        Check.refusedAndKeeps("15: reason 3 on the near bank, before reason 7", Scenes::fullHouse, 3, -1, ford -> ford.go(7));
        Check.refusedAndKeeps("15: reason 3 on the far bank, before reason 7", () -> outOn(11), 3, 10, ford -> ford.go(0));
        Check.refusedAndKeeps("15: reason 7 on the bank", () -> outOn(0), 7, 0, ford -> ford.go(0));
        Check.refusedAndKeeps("15: reason 7 on the last stone", () -> outOn(10), 7, 0, ford -> ford.go(0));
        FordToll ford = stoppedAt(3);
        Check.is("15: where the traveller is", ford.go(1), 2);
        Check.is("15: not stopped", ford.travellerOf(1, 6), 0);
        Check.refused("15: reason 7 the second time", ford, 7, 1, () -> ford.go(1));
        Check.is("15: no hour goes by", Scenes.place(ford, 1), 2);
        ford.pass(8);
        Check.is("15: crosses", Scenes.place(ford, 1), 10);
    }

    private static void stoppedOnEachPlace() {
        for (int place = -1; place <= 9; place++) {
            FordToll ford = outOn(place + 1);
            Check.is("14: stopped on " + place, ford.stop(0), place);
            ford.pass(1);
            Check.is("14: waits on " + place, Scenes.place(ford, 0), place);
            Check.is("15: goes on from " + place, ford.go(0), place);
            ford.pass(1);
            Check.is("15: went on from " + place, Scenes.place(ford, 0), place + 1);
        }
    }

    private static void leave() {
        FordToll ford = Scenes.fullHouse();
        for (int left = 8; left > 0; left--) {
            Check.is("16: never crossed", ford.leave(0), 0);
            Check.is("28: 3, one fewer", ford.account(3), left - 1);
        }
        Check.fails("16: none left", IndexOutOfBoundsException.class, () -> ford.leave(0));
        Check.is("10: from 0 again", ford.traveller(4), 0);
        FordToll crossed = outOn(11);
        crossed.setOut(0);
        crossed.pass(11);
        Check.is("16: crossed twice", crossed.leave(0), 2);
        Check.is("28: 13, of who left, too", crossed.account(13), 2);
        Check.is("28: 12, the fees stay", crossed.account(12), 6);
        FordToll both = Scenes.with(0, 0);
        both.setOut(1);
        both.pass(11);
        Check.is("16: not how often the next one crossed", both.leave(0), 0);
        Check.is("16: how often the next one crossed", both.leave(0), 1);
        FordToll first = Scenes.with(0, 0);
        first.setOut(0);
        first.pass(11);
        Check.is("16: how often the first one crossed", first.leave(0), 1);
        FordToll onFar = outOn(11);
        Check.is("16: from the far bank", onFar.leave(0), 1);
        Check.is("28: 6, nobody there", onFar.account(6), 0);
    }

    private static void leaveRefused() {
        for (int place = -1; place <= 9; place++) {
            int hours = place + 1;
            Check.refusedAndKeeps("16: reason 2 on " + place, () -> outOn(hours), 2, place, ford -> ford.leave(0));
        }
    }

    private static void leaveFirstAndLast() {
        FordToll first = Scenes.fullHouse();
        first.setOut(3);
        first.leave(0);
        Check.is("16: the numbers of the later ones decrease by 1", Scenes.numbers(first, 1), "1 2 3 4 8 9 20");
        Check.is("16: all of them", Scenes.numbers(first, 4), "0 0 1 0 0 0 0");
        FordToll middle = Scenes.fullHouse();
        middle.leave(3);
        Check.is("16: the numbers of the earlier ones stay", Scenes.numbers(middle, 1), "0 1 2 4 8 9 20");
        FordToll last = Scenes.fullHouse();
        last.leave(7);
        Check.is("16: the last one", Scenes.numbers(last, 1), "0 1 2 3 4 8 9");
        Check.fails("16: is not there", IndexOutOfBoundsException.class, () -> last.fee(7));
    }

    private static void crossedInFromEachPlace() {
        for (int hours = 0; hours <= 10; hours++) {
            FordToll ford = outOn(hours);
            String before = Check.all(ford);
            Check.is("18: from " + (hours - 1), ford.crossedIn(0), 11 - hours);
            Check.is("18: nothing changes", Check.all(ford), before);
            ford.pass(11 - hours);
            Check.is("18: so it is", Scenes.place(ford, 0), 10);
        }
    }

    private static void crossedInNear() {
        FordToll ford = outOn(11);
        ford.setOut(0);
        for (int hours = 11; hours >= 1; hours--) {
            Check.is("18: toward the near bank", ford.crossedIn(0), hours);
            ford.pass(1);
        }
        Check.is("18: so it is", Scenes.place(ford, 0), -1);
        Check.fails("18: is there already", NoSuchElementException.class, () -> ford.crossedIn(0));
    }

    /** The flood falls from its top by 1 in an hour; who needs it at its bottom waits until the hour 34. */
    private static void crossedInLongest() {
        int[] loads = {0, 4, 9};
        int[] heights = {4, 4, 7};
        for (int kind = 0; kind <= 2; kind++) {
            FordToll ford = Scenes.with(loads[kind]);
            Scenes.setAllHeights(ford, heights[kind]);
            Scenes.letRise(ford, 38);
            ford.rain(1);
            ford.setOut(0);
            Check.is("18: the longest, kind " + kind, ford.crossedIn(0), 44);
            ford.pass(24);
            Check.is("18: 24 less, kind " + kind, ford.crossedIn(0), 20);
            Check.is("17: one hour before", ford.pass(19), 0);
            Check.is("17: in the hour that was told", ford.pass(1), 1);
        }
    }

    private static FordToll heldUp(int load, int height) {
        FordToll ford = Scenes.with(load);
        ford.height(9, height);
        ford.setOut(0);
        return ford;
    }

    private static FordToll soonUnder() {
        FordToll ford = outOn(1);
        ford.rain(9);
        return ford;
    }

    /** On the last stone before the bank, which comes under in the next hour. */
    private static FordToll lastUnder(int behind, boolean toFar) {
        FordToll ford = outOn(11);
        if (toFar) {
            ford.setOut(0);
            ford.pass(11);
        }
        ford.height(toFar ? 8 : 1, behind);
        ford.setOut(0);
        ford.pass(10);
        ford.rain(9);
        return ford;
    }

    /** On the stone 8, which comes under in the next hour, while the last one stays dry. */
    private static FordToll dryAhead() {
        FordToll ford = outOn(9);
        ford.height(9, 30);
        ford.rain(9);
        return ford;
    }

    private static void crossedInNever() {
        Class<NoSuchElementException> due = NoSuchElementException.class;
        Check.failsAndKeeps("18: not set out, on the near bank", Scenes::fullHouse, due, ford -> ford.crossedIn(7));
        Check.failsAndKeeps("18: not set out, on the far bank", () -> outOn(11), due, ford -> ford.crossedIn(0));
        Check.failsAndKeeps("18: stopped", () -> stoppedAt(10), due, ford -> ford.crossedIn(1));
        Check.failsAndKeeps("18: a walker before a stone under", () -> heldUp(0, 3), due, ford -> ford.crossedIn(0));
        Check.failsAndKeeps("18: a carrier before a lower one awash", () -> heldUp(4, 6), due, ford -> ford.crossedIn(0));
        Check.failsAndKeeps("18: a donkey before one awash", () -> heldUp(9, 6), due, ford -> ford.crossedIn(0));
        Check.failsAndKeeps("18: goes back to the bank", TravellerEdgesTest::soonUnder, due, ford -> ford.crossedIn(0));
        Check.failsAndKeeps("18: back from the last stone", () -> lastUnder(10, true), due, ford -> ford.crossedIn(0));
        Check.failsAndKeeps("18: back from the last stone to one", () -> lastUnder(30, true), due, ford -> ford.crossedIn(0));
        Check.failsAndKeeps("18: back from the first stone", () -> lastUnder(10, false), due, ford -> ford.crossedIn(0));
        Check.failsAndKeeps("18: back from the first stone to one", () -> lastUnder(30, false), due, ford -> ford.crossedIn(0));
        Check.failsAndKeeps("18: back though the last one is dry", TravellerEdgesTest::dryAhead, due, ford -> ford.crossedIn(0));
        Check.is("18: a walker over one awash", heldUp(0, 4).crossedIn(0), 11);
        Check.is("18: a carrier over a dry one", heldUp(4, 7).crossedIn(0), 11);
        Check.is("18: a donkey over a dry one", heldUp(9, 7).crossedIn(0), 11);
    }

    /** Back from stone 4 to stone 1 when the flood is 11; on again when it is lower. */
    private static void crossedInAfterGoingBack() {
        FordToll ford = Scenes.with(0);
        ford.height(1, 30);
        ford.setOut(0);
        ford.pass(5);
        ford.rain(7);
        ford.pass(1);
        Check.is("Terms, Crossing: all are awash at 9", Scenes.place(ford, 0), 5);
        ford.rain(4);
        Check.fails("18: back to a stone, and never on", NoSuchElementException.class, () -> ford.crossedIn(0));
        ford.pass(1);
        Check.is("Terms, Crossing: went back", Scenes.place(ford, 0), 1);
        ford.rain(1);
        Check.is("18: on when the flood is 10", ford.crossedIn(0), 9);
        ford.rain(0);
        Check.is("18: on when the flood is 9", ford.crossedIn(0), 9);
        ford.stop(0);
        Check.fails("18: stopped on a stone", NoSuchElementException.class, () -> ford.crossedIn(0));
    }

    private static FordToll atTen(int... heights) {
        FordToll ford = Scenes.atFlood(10);
        Scenes.setAllHeights(ford, 30);
        Check.setHeights(ford, heights);
        return ford;
    }

    private static void wetStepsAre(String what, FordToll ford, int walker, int carrier, int donkey) {
        int[] due = {walker, carrier, donkey};
        int bits = 0;
        for (int kind = 0; kind <= 2; kind++) {
            int one = kind;
            if (due[kind] < 0) {
                Check.fails("19: kind " + kind + ", " + what, NoSuchElementException.class, () -> ford.wetSteps(one));
            } else {
                Check.is("19: kind " + kind + ", " + what, ford.wetSteps(kind), due[kind]);
                bits |= 1 << kind;
            }
        }
        Check.is("20: " + what, ford.kinds(), bits);
    }

    private static void wetSteps() {
        wetStepsAre("all dry", atTen(), 0, 0, 0);
        wetStepsAre("the lowest dry ones", atTen(13, 13, 13, 13, 13, 13, 13, 13, 13, 13), 0, 0, 0);
        wetStepsAre("all awash at the highest", atTen(12, 12, 12, 12, 12, 12, 12, 12, 12, 12), 10, 10, -1);
        wetStepsAre("all awash at the lowest", atTen(10, 10, 10, 10, 10, 10, 10, 10, 10, 10), 10, 10, -1);
        wetStepsAre("the first awash", atTen(12), 1, 1, -1);
        wetStepsAre("the first under", atTen(9), -1, -1, -1);
        wetStepsAre("the last awash", atTen(30, 30, 30, 30, 30, 30, 30, 30, 30, 12), 1, -1, -1);
        wetStepsAre("the last under", atTen(30, 30, 30, 30, 30, 30, 30, 30, 30, 9), -1, -1, -1);
        wetStepsAre("the last under after others awash", atTen(10, 10, 10, 10, 10, 10, 10, 10, 10, 9), -1, -1, -1);
        wetStepsAre("all under", Scenes.atFlood(38), -1, -1, -1);
    }

    private static void wetStepsOfCarriers() {
        wetStepsAre("up by 1", atTen(10, 11, 12, 13), 3, 3, -1);
        wetStepsAre("down by 1", atTen(11, 10), 2, -1, -1);
        wetStepsAre("as high", atTen(11, 11), 2, 2, -1);
        wetStepsAre("down from a dry one", atTen(13, 12), 1, -1, -1);
        wetStepsAre("up to a dry one and down to a dry one", atTen(12, 30, 13), 1, 1, -1);
        wetStepsAre("down only at the end", atTen(10, 10, 10, 10, 10, 10, 10, 10, 11, 10), 10, -1, -1);
    }

    private static void noWetSteps() {
        for (int kind : new int[] {-1, 3, Integer.MIN_VALUE, Integer.MAX_VALUE}) {
            Check.failsAndKeeps("19: the kind " + kind, FordToll::new, IllegalArgumentException.class, ford -> ford.wetSteps(kind));
            Check.failsAndKeeps("19: the kind is looked at before the flood, " + kind, () -> Scenes.atFlood(38),
                IllegalArgumentException.class, ford -> ford.wetSteps(kind));
        }
        for (int kind = 0; kind <= 2; kind++) {
            int one = kind;
            Check.failsAndKeeps("19: could not cross, kind " + kind, () -> Scenes.atFlood(11), NoSuchElementException.class,
                ford -> ford.wetSteps(one));
        }
    }

    private static void kinds() {
        FordToll ford = Scenes.atFlood(10);
        ford.rain(9);
        Check.is("20: with the flood as it is", ford.kinds(), 3);
        Check.is("19: with the flood as it is", ford.wetSteps(0), 10);
        FordToll busy = Scenes.with(0);
        busy.setOut(0);
        busy.pass(1);
        Check.is("20: travellers hinder nobody", busy.kinds(), 7);
    }
}
