/** The edges in "Terms, Travellers", "Terms, Boots", "Terms, Mail", "Terms, Fees" and of the details about them. */
public final class BootsAndMailEdgesTest {
    public static void main(String[] args) {
        loadsAndKinds();
        travellersAtFirst();
        wetOnStones();
        wetAtMost20();
        wetAtMost20ByGoingBack();
        notBelow0OnStones();
        waitingAndStopped();
        stoveDriesTwo();
        stoveOfEachBank();
        stoveInTheHourOfComing();
        stoveNotBelow0();
        noStoveForWhoHasSetOut();
        tooWet();
        lettersByLoad();
        lettersLeft();
        lettersComeBack();
        moreThan99();
        fees();
        Check.end("BootsAndMailEdgesTest");
    }

    private static int kindDue(int load) {
        return load < 4 ? 0 : load < 9 ? 1 : 2;
    }

    private static void loadsAndKinds() {
        for (int load = 0; load <= 20; load++) {
            FordToll ford = new FordToll();
            Check.is("10: numbered from 0", ford.traveller(load), 0);
            Check.is("Terms, Travellers: the kind of the load " + load, ford.travellerOf(0, 0), kindDue(load));
            Check.is("11: 1, the load " + load, ford.travellerOf(0, 1), load);
        }
    }

    private static void travellersAtFirst() {
        FordToll ford = Scenes.fullHouse();
        for (int traveller = 0; traveller < 8; traveller++) {
            Check.is("Terms, Travellers: no wet at first", ford.travellerOf(traveller, 2), 0);
            Check.is("Terms, Travellers: on the near bank at first", ford.travellerOf(traveller, 3), -1);
            Check.is("11: 4, has not set out at first", ford.travellerOf(traveller, 4), 0);
            Check.is("11: 5, would go far at first", ford.travellerOf(traveller, 5), 1);
            Check.is("11: 6, is not stopped at first", ford.travellerOf(traveller, 6), 0);
            Check.is("11: 7, did not cross at first", ford.travellerOf(traveller, 7), 0);
            Check.is("11: 8, no letters at first", ford.travellerOf(traveller, 8), 0);
        }
    }

    private static void wetOnStones() {
        for (int height = 4; height <= 8; height++) {
            FordToll ford = Scenes.with(0);
            ford.height(0, 6);
            ford.height(1, height);
            ford.setOut(0);
            ford.pass(2);
            int due = height <= 6 ? 4 : 1;
            Check.is("Terms, Boots: awash 2 more, dry 1 less, at " + height, Scenes.wet(ford, 0), due);
        }
    }

    /** A walker who is stopped on the first stone, which is awash; the second one is dry. */
    private static FordToll soaked(int hours) {
        FordToll ford = Scenes.with(0);
        Check.setHeights(ford, 5, 10, 6);
        ford.setOut(0);
        ford.pass(1);
        ford.stop(0);
        if (hours > 1) {
            ford.pass(hours - 1);
        }
        return ford;
    }

    private static void wetAtMost20() {
        for (int hours = 1; hours <= 13; hours++) {
            Check.is("Terms, Boots: at most 20, after hours " + hours, Scenes.wet(soaked(hours), 0), Math.min(20, 2 * hours));
        }
        FordToll ford = soaked(10);
        Check.is("Terms, Boots: just 20", Scenes.wet(ford, 0), 20);
        ford.go(0);
        ford.pass(1);
        Check.is("Terms, Boots: 20 less 1", Scenes.wet(ford, 0), 19);
        ford.pass(1);
        Check.is("Terms, Boots: 19 and 2 are 20", Scenes.wet(ford, 0), 20);
        ford.pass(1);
        Check.is("Terms, Boots: 19 again", Scenes.wet(ford, 0), 19);
    }

    /** The stone behind is dry also when the flood is 11, so that 1 is dried after 5 more. */
    private static int wetAfterGoingBack(int hours) {
        FordToll ford = Scenes.with(0);
        Check.setHeights(ford, 30, 5);
        ford.setOut(0);
        ford.pass(2);
        ford.stop(0);
        if (hours > 1) {
            ford.pass(hours - 1);
        }
        ford.rain(9);
        ford.pass(1);
        Check.is("Terms, Crossing: went back to the dry one", Scenes.place(ford, 0), 0);
        return Scenes.wet(ford, 0);
    }

    private static void wetAtMost20ByGoingBack() {
        Check.is("Terms, Boots: 14 and 5 are 19, less 1", wetAfterGoingBack(7), 18);
        Check.is("Terms, Boots: 16 and 5 are 20, less 1", wetAfterGoingBack(8), 19);
        Check.is("Terms, Boots: 20 and 5 are 20, less 1", wetAfterGoingBack(10), 19);
        FordToll just = Scenes.with(0);
        Check.setHeights(just, 30, 5, 10, 3);
        just.setOut(0);
        just.pass(2);
        just.stop(0);
        just.pass(7);
        just.go(0);
        just.pass(1);
        Check.is("Terms, Boots: 16 less 1", Scenes.wet(just, 0), 15);
        just.rain(9);
        just.pass(1);
        Check.is("Terms, Boots: 15 and 5 are just 20, less 1", Scenes.wet(just, 0), 19);
    }

    private static void notBelow0OnStones() {
        FordToll ford = soaked(1);
        Check.is("Terms, Boots: 2 wet", Scenes.wet(ford, 0), 2);
        ford.height(2, 10);
        ford.go(0);
        int[] due = {1, 0, 0, 0};
        for (int wet : due) {
            ford.pass(1);
            Check.is("Terms, Boots: 1 less, not below 0", Scenes.wet(ford, 0), wet);
        }
    }

    private static void waitingAndStopped() {
        FordToll ford = Scenes.with(0, 0);
        Check.setHeights(ford, 5, 10, 3);
        Scenes.setAllOut(ford);
        ford.pass(1);
        ford.stop(1);
        ford.pass(3);
        Check.is("Terms, Details: one waits on a dry stone, one is stopped on one awash", Scenes.places(ford), "1 0");
        Check.is("Terms, Details: each one on a stone gets wetter or drier", Scenes.wets(ford), "0 8");
        ford.go(1);
        ford.pass(1);
        ford.stop(1);
        ford.stop(0);
        Check.is("Terms, Details: onto the dry one", Scenes.wets(ford), "0 7");
        ford.pass(2);
        Check.is("Terms, Details: stopped on a dry one", Scenes.wets(ford), "0 5");
    }

    /** Everyone stands on the last stone with 2 wet for each of the last stones, and then comes to the far bank. */
    private static FordToll onTheFarBank(int travellers, int stones) {
        FordToll ford = new FordToll();
        for (int count = 0; count < travellers; count++) {
            ford.traveller(0);
        }
        for (int stone = 10 - stones; stone < 10; stone++) {
            ford.height(stone, 5);
        }
        Scenes.setAllOut(ford);
        ford.pass(11);
        return ford;
    }

    private static void wetsHourByHour(String what, FordToll ford, String... due) {
        for (int hour = 0; hour < due.length; hour++) {
            Check.is("Terms, Boots: " + what + ", hour " + hour, Scenes.wets(ford), due[hour]);
            ford.pass(1);
        }
    }

    private static void stoveDriesTwo() {
        wetsHourByHour("one alone is dried by 3", onTheFarBank(1, 4), "5", "2", "0", "0");
        wetsHourByHour("two", onTheFarBank(2, 4), "5 5", "2 2", "0 0");
        wetsHourByHour("the most, of several the lowest", onTheFarBank(3, 5),
            "7 7 10", "4 7 7", "4 4 4", "1 1 4", "0 1 1", "0 0 0");
        wetsHourByHour("the full house", onTheFarBank(8, 2), "1 1 4 4 4 4 4 4", "1 1 1 1 4 4 4 4", "1 1 1 1 1 1 4 4",
            "1 1 1 1 1 1 1 1", "0 0 1 1 1 1 1 1", "0 0 0 0 1 1 1 1");
        FordToll last = Scenes.with(0, 0, 0, 0);
        Check.setHeights(last, 5);
        last.setOut(3);
        last.pass(1);
        last.setOut(2);
        last.stop(3);
        last.pass(1);
        last.setOut(1);
        last.stop(2);
        last.pass(1);
        last.rain(9);
        last.pass(1);
        wetsHourByHour("the most wet before the lowest", last, "0 7 6 8", "0 4 6 5", "0 4 3 2", "0 1 0 2");
    }

    private static void stoveOfEachBank() {
        FordToll ford = Scenes.with(0, 0, 0, 0, 0, 0);
        ford.height(9, 5);
        ford.height(8, 5);
        for (int traveller = 0; traveller < 6; traveller += 2) {
            ford.setOut(traveller);
        }
        ford.pass(10);
        ford.height(0, 5);
        for (int traveller = 1; traveller < 6; traveller += 2) {
            ford.setOut(traveller);
        }
        ford.pass(1);
        Check.is("Terms, Crossing: three came over", Scenes.places(ford), "10 0 10 0 10 0");
        Check.is("Terms, Boots: two of three dried on the far bank", Scenes.wets(ford), "1 2 1 2 4 2");
        ford.rain(9);
        ford.pass(1);
        Check.is("Terms, Boots: two on each bank in one hour", Scenes.wets(ford), "0 4 1 4 1 7");
        ford.pass(1);
        Check.is("Terms, Boots: two on each bank, of several the lowest", Scenes.wets(ford), "0 1 0 4 0 4");
        ford.pass(1);
        Check.is("Terms, Boots: a stove alone", Scenes.wets(ford), "0 1 0 1 0 1");
    }

    private static void stoveInTheHourOfComing() {
        FordToll over = onTheFarBank(1, 1);
        Check.is("Terms, Details: dried in the hour of coming, 2 less 3", Scenes.wet(over, 0), 0);
        FordToll back = Scenes.with(0);
        back.setOut(0);
        back.pass(1);
        back.rain(9);
        back.pass(1);
        Check.is("Terms, Details: dried in the hour of going back, 5 less 3", Scenes.wet(back, 0), 2);
        FordToll before = onTheFarBank(1, 2);
        Check.is("Terms, Details: 4 less 3", Scenes.wet(before, 0), 1);
    }

    private static void stoveNotBelow0() {
        wetsHourByHour("2 less 3 are 0", Scenes.with(0), "0", "0");
        wetsHourByHour("from 8", onTheFarBank(1, 4), "5", "2", "0", "0");
        wetsHourByHour("from 6", onTheFarBank(1, 3), "3", "0", "0");
        wetsHourByHour("from 4", onTheFarBank(1, 2), "1", "0", "0");
    }

    private static void noStoveForWhoHasSetOut() {
        FordToll ford = onTheFarBank(4, 5);
        Check.is("Terms, Boots: two dried", Scenes.wets(ford), "7 7 10 10");
        ford.height(9, 3);
        ford.setOut(2);
        ford.pass(1);
        Check.is("Terms, Details: who has set out, but cannot go, is not dried", Scenes.wets(ford), "4 7 10 7");
        ford.stop(2);
        ford.pass(1);
        Check.is("Terms, Details: nor is who is stopped", Scenes.wets(ford), "4 4 10 4");
        ford.setOut(0);
        ford.setOut(1);
        ford.setOut(3);
        ford.pass(1);
        Check.is("Terms, Details: none is", Scenes.wets(ford), "4 4 10 4");
    }

    /** All of them wait on the first stone, which is awash, and go back to the near bank. */
    private static FordToll backWith(int travellers, int hours) {
        FordToll ford = new FordToll();
        for (int count = 0; count < travellers; count++) {
            ford.traveller(0);
        }
        Check.setHeights(ford, 5, 3);
        Scenes.setAllOut(ford);
        ford.pass(hours);
        ford.rain(4);
        ford.pass(1);
        ford.rain(0);
        return ford;
    }

    private static void tooWet() {
        FordToll most = backWith(3, 10);
        Check.is("Terms, Boots: 20 wet on the bank", Scenes.wets(most), "17 17 20");
        Check.refusedAndKeeps("13: reason 4, 20 wet", () -> backWith(3, 10), 4, 20, ford -> ford.setOut(2));
        Check.refusedAndKeeps("13: reason 4, 17 wet", () -> backWith(3, 10), 4, 17, ford -> ford.setOut(0));
        Check.refusedAndKeeps("13: reason 4, 13 wet", () -> backWith(3, 4), 4, 13, ford -> ford.setOut(2));
        Check.refusedAndKeeps("13: reason 4, just 12 wet", () -> backWith(1, 5), 4, 12, ford -> ford.setOut(0));
        FordToll just = backWith(3, 3);
        Check.is("Terms, Boots: 11 wet", Scenes.wets(just), "8 8 11");
        Check.is("13: sets out with 11 wet", just.setOut(2), 2);
        Check.is("13: sets out with 8 wet", just.setOut(0), 2);
        Check.is("13: sets out with no wet", Scenes.with(0).setOut(0), 2);
        FordToll dried = backWith(1, 5);
        dried.pass(1);
        Check.is("13: sets out when dried to 9", dried.setOut(0), 2);
    }

    private static int[] bagAndTaken(int load, int bag) {
        FordToll ford = Scenes.with(load);
        if (bag > 0) {
            ford.letters(bag);
        }
        ford.setOut(0);
        Check.is("28: 9, the letters with walkers", ford.account(9), ford.travellerOf(0, 8));
        return new int[] {ford.account(8), ford.travellerOf(0, 8)};
    }

    private static void lettersByLoad() {
        for (int load = 0; load <= 20; load++) {
            int room = load > 3 ? 0 : 12 - 3 * load;
            for (int bag = 0; bag <= 14; bag++) {
                int[] got = bagAndTaken(load, bag);
                int due = Math.min(room, bag);
                Check.is("Terms, Mail: taken by the load " + load + " of " + bag, got[1], due);
                Check.is("Terms, Mail: left in the bag by the load " + load + " of " + bag, got[0], bag - due);
            }
        }
    }

    private static void lettersLeft() {
        FordToll ford = Scenes.with(0, 3, 4);
        ford.letters(50);
        Scenes.setAllOut(ford);
        Check.is("11: 8, 12 and 3", Scenes.numbers(ford, 8), "12 3 0");
        ford.pass(10);
        Check.is("28: 10, none yet on the last stone", ford.account(10), 0);
        ford.pass(1);
        Check.is("Terms, Mail: left on the far bank", ford.account(10), 15);
        Check.is("11: 8, none any more", Scenes.numbers(ford, 8), "0 0 0");
        Check.is("28: 9, none any more", ford.account(9), 0);
        ford.setOut(0);
        Check.is("Terms, Mail: none taken on the far bank", ford.travellerOf(0, 8), 0);
        Check.is("28: 8, none of the bag", ford.account(8), 35);
        ford.pass(11);
        Check.is("Terms, Mail: none brought to the near bank", ford.account(8), 35);
        ford.setOut(0);
        Check.is("Terms, Mail: 12 again on the near bank", ford.travellerOf(0, 8), 12);
        ford.pass(11);
        Check.is("28: 10, so far", ford.account(10), 27);
        Check.is("28: 11, put so far", ford.account(11), 50);
        ford.leave(0);
        Check.is("28: 10, also of who left", ford.account(10), 27);
        Check.is("29: of who left, too", ford.lettersAgain(), 23);
    }

    private static void lettersComeBack() {
        FordToll ford = Scenes.with(0, 2);
        ford.height(0, 30);
        ford.letters(15);
        ford.setOut(0);
        ford.pass(2);
        ford.setOut(1);
        Check.is("Terms, Mail: all that there are", Scenes.numbers(ford, 8), "12 3");
        ford.rain(9);
        ford.pass(1);
        Check.is("Terms, Mail: who goes back to a stone keeps them", Scenes.numbers(ford, 8), "12 3");
        Check.is("28: 8, none came back", ford.account(8), 0);
        ford.pass(2);
        Check.is("Terms, Crossing: both on the first stone", Scenes.places(ford), "0 0");
        ford.pass(1);
        Check.is("28: 1, the flood is higher than the first stone", ford.account(1) > 30, true);
        Check.is("Terms, Mail: who goes back to the near bank puts them into the bag", ford.account(8), 15);
        Check.is("11: 8, none any more", Scenes.numbers(ford, 8), "0 0");
        Check.is("28: 11, they were not put in again", ford.account(11), 15);
        Check.is("28: 10, none came to the far bank", ford.account(10), 0);
        Check.is("29: by the second way", ford.lettersAgain(), 15);
    }

    /** All eight take 12 letters, while the bag is filled up to 99 again; then they come back. */
    private static FordToll overfull() {
        FordToll ford = Scenes.with(0, 0, 0, 0, 0, 0, 0, 0);
        ford.letters(50);
        ford.letters(49);
        Scenes.setAllOut(ford);
        ford.letters(50);
        ford.letters(46);
        ford.pass(1);
        ford.rain(9);
        ford.pass(1);
        return ford;
    }

    private static void moreThan99() {
        FordToll ford = overfull();
        Check.is("Terms, Details: letters that come back can make more than 99", ford.account(8), 195);
        Check.is("29: more than 99", ford.lettersAgain(), 195);
        Check.is("28: 11, put so far", ford.account(11), 195);
        Check.refusedAndKeeps("4: reason 5 with more than 99", BootsAndMailEdgesTest::overfull, 5, 195, toll -> toll.letters(1));
        ford.setOut(0);
        Check.is("Terms, Mail: 12 of more than 99", ford.account(8), 183);
    }

    private static void fees() {
        int[] due = {2, 2, 2, 2, 2, 3, 3, 3, 3, 5, 6, 6, 6, 6, 6, 7, 7, 7, 7, 7, 8};
        for (int load = 0; load <= 20; load++) {
            FordToll ford = Scenes.with(load);
            Check.is("12: the fee of the load " + load, ford.fee(0), due[load]);
            Check.is("12: asking costs nothing", ford.account(12), 0);
            Check.is("13: the fee of the load " + load, ford.setOut(0), due[load]);
            Check.is("Terms, Fees: into the chest", ford.account(12), due[load]);
            Check.is("12: the fee stays", ford.fee(0), due[load]);
            ford.pass(11);
            Check.is("13: the fee of the way back", ford.setOut(0), due[load]);
            Check.is("Terms, Fees: both ways", ford.account(12), 2 * due[load]);
        }
        FordToll house = Scenes.fullHouse();
        Scenes.setAllOut(house);
        Check.is("Terms, Fees: of the full house", house.account(12), 2 + 2 + 2 + 2 + 2 + 3 + 5 + 8);
    }
}
