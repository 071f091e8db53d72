/** The edges in "Terms, Crossing", "Terms, An hour goes by", "Terms, Details" of the way, and promise 17. */
public final class CrossingEdgesTest {
    private static final int[] LOADS = {0, 4, 9};

    public static void main(String[] args) {
        hours();
        oneStepAnHour();
        walkerSteps();
        carrierSteps();
        donkeySteps();
        stepsFromBanks();
        alwaysOntoTheBank();
        whoWaits();
        whoHasNotSetOut();
        goingBackFromEachStone();
        goingBackOverSeveral();
        goingBackIsForAllOfIt();
        severalGoBack();
        whoIsNotUnder();
        stoppedGoesBack();
        goingOnAfterGoingBack();
        orderOfAnHour();
        crossedAndBack();
        Check.end("CrossingEdgesTest");
    }

    private static void hours() {
        FordToll ford = Scenes.with(2);
        Check.is("Terms, Rain and flood: hours from 0", ford.account(0), 0);
        Check.is("17: the least", ford.pass(1), 0);
        Check.is("17: 1", ford.account(0), 1);
        Check.is("17: the most", ford.pass(24), 0);
        Check.is("17: 24 more", ford.account(0), 25);
        for (int hours : new int[] {0, 25, -1, Integer.MIN_VALUE, Integer.MAX_VALUE}) {
            Check.failsAndKeeps("17: hours " + hours, Scenes::fullHouse, IllegalArgumentException.class, toll -> toll.pass(hours));
        }
        FordToll oneByOne = Scenes.with(0, 4, 9);
        Scenes.setAllOut(oneByOne);
        int crossed = 0;
        for (int hour = 0; hour < 24; hour++) {
            crossed += oneByOne.pass(1);
        }
        FordToll atOnce = Scenes.with(0, 4, 9);
        Scenes.setAllOut(atOnce);
        Check.is("17: 24 at once are 24 one by one", atOnce.pass(24), crossed);
        Check.is("17: all of it", Check.state(atOnce), Check.state(oneByOne));
    }

    private static void oneStepAnHour() {
        for (int load : LOADS) {
            FordToll ford = Scenes.with(load);
            ford.setOut(0);
            for (int place = 0; place <= 9; place++) {
                Check.is("17: not over at " + place, ford.pass(1), 0);
                Check.is("Terms, Crossing: one step to " + place, Scenes.place(ford, 0), place);
            }
            Check.is("17: over", ford.pass(1), 1);
            Check.is("Terms, Crossing: on the far bank", Scenes.place(ford, 0), 10);
            Check.is("11: 5, would go near", ford.travellerOf(0, 5), 0);
            ford.setOut(0);
            for (int place = 9; place >= 0; place--) {
                Check.is("17: not back at " + place, ford.pass(1), 0);
                Check.is("Terms, Crossing: one step back to " + place, Scenes.place(ford, 0), place);
                Check.is("11: 5, goes near", ford.travellerOf(0, 5), 0);
            }
            Check.is("17: over again", ford.pass(1), 1);
            Check.is("Terms, Crossing: on the near bank", Scenes.place(ford, 0), -1);
            Check.is("11: 7, twice", ford.travellerOf(0, 7), 2);
            Check.is("11: 5, would go far", ford.travellerOf(0, 5), 1);
        }
    }

    /** Whether one goes ("g") or waits ("w") before stones of the heights 9 to 13, with a flood of 10. */
    private static String steps(int load, int leaving, boolean toFar) {
        StringBuilder text = new StringBuilder();
        for (int height = 9; height <= 13; height++) {
            FordToll ford = Scenes.with(load);
            Scenes.setAllHeights(ford, 30);
            if (!toFar) {
                ford.setOut(0);
                ford.pass(11);
            }
            Scenes.letRise(ford, 10);
            ford.height(toFar ? 0 : 9, leaving);
            ford.height(toFar ? 1 : 8, height);
            ford.setOut(0);
            ford.pass(1);
            Check.is("Terms, Crossing: the first step of the load " + load, Scenes.place(ford, 0), toFar ? 0 : 9);
            ford.pass(1);
            text.append(Scenes.place(ford, 0) == (toFar ? 1 : 8) ? 'g' : 'w');
        }
        return text.toString();
    }

    private static void stepsAre(String who, int load, int leaving, String due) {
        Check.is("Terms, Crossing: " + who + " from " + leaving + " to 9 .. 13", steps(load, leaving, true), due);
        Check.is("Terms, Crossing: " + who + " near from " + leaving + " to 9 .. 13", steps(load, leaving, false), due);
    }

    private static void walkerSteps() {
        for (int load = 0; load <= 3; load += 3) {
            for (int leaving : new int[] {10, 11, 12, 13, 30}) {
                stepsAre("a walker of " + load, load, leaving, "wgggg");
            }
        }
    }

    private static void carrierSteps() {
        for (int load = 4; load <= 8; load += 4) {
            stepsAre("a carrier of " + load, load, 10, "wgggg");
            stepsAre("a carrier of " + load, load, 11, "wwggg");
            stepsAre("a carrier of " + load, load, 12, "wwwgg");
            stepsAre("a carrier of " + load, load, 13, "wwwwg");
            stepsAre("a carrier of " + load, load, 14, "wwwwg");
            stepsAre("a carrier of " + load, load, 30, "wwwwg");
        }
    }

    private static void donkeySteps() {
        for (int load = 9; load <= 20; load += 11) {
            stepsAre("a donkey of " + load, load, 13, "wwwwg");
            stepsAre("a donkey of " + load, load, 30, "wwwwg");
        }
    }

    private static String bankSteps(int load, boolean toFar) {
        StringBuilder text = new StringBuilder();
        for (int height = 9; height <= 13; height++) {
            FordToll ford = Scenes.with(load);
            Scenes.setAllHeights(ford, 30);
            if (!toFar) {
                ford.setOut(0);
                ford.pass(11);
            }
            Scenes.letRise(ford, 10);
            ford.height(toFar ? 0 : 9, height);
            ford.setOut(0);
            ford.pass(1);
            text.append(Scenes.place(ford, 0) == (toFar ? 0 : 9) ? 'g' : 'w');
            Check.is("Terms, Crossing: who cannot go waits, and has set out", ford.travellerOf(0, 4), 1);
        }
        return text.toString();
    }

    private static void stepsFromBanks() {
        String[] due = {"wgggg", "wgggg", "wwwwg"};
        for (int kind = 0; kind <= 2; kind++) {
            Check.is("Terms, Crossing: from the near bank, kind " + kind, bankSteps(LOADS[kind], true), due[kind]);
            Check.is("Terms, Crossing: from the far bank, kind " + kind, bankSteps(LOADS[kind], false), due[kind]);
        }
    }

    /** In the hour in which the last stone comes awash, at its highest and its lowest, everyone on it goes to the bank. */
    private static void alwaysOntoTheBank() {
        for (int load : LOADS) {
            for (int height = 11; height <= 13; height++) {
                FordToll ford = Scenes.with(load);
                Scenes.setAllHeights(ford, 30);
                ford.height(9, height);
                ford.setOut(0);
                ford.pass(10);
                ford.rain(9);
                Check.is("Terms, Crossing: always onto the far bank, load " + load + ", from " + height, ford.pass(1), 1);
                Check.is("5: awash", ford.stoneOf(9, 1), 1);
                FordToll near = Scenes.with(load);
                Scenes.setAllHeights(near, 30);
                near.height(0, height);
                near.setOut(0);
                near.pass(11);
                near.setOut(0);
                near.pass(10);
                near.rain(9);
                Check.is("Terms, Crossing: always onto the near bank, load " + load + ", from " + height, near.pass(1), 1);
            }
        }
    }

    private static void whoWaits() {
        FordToll ford = Scenes.with(0);
        ford.height(0, 3);
        ford.setOut(0);
        ford.pass(24);
        Check.is("Terms, Crossing: waits on the bank", Scenes.place(ford, 0), -1);
        Check.is("11: 4, has set out still", ford.travellerOf(0, 4), 1);
        Check.is("12: no second fee", ford.account(12), 2);
        Check.refused("13: reason 2 of who waits", ford, 2, -1, () -> ford.setOut(0));
        ford.height(0, 4);
        ford.height(1, 3);
        ford.pass(3);
        Check.is("Terms, Crossing: waits on the stone", Scenes.place(ford, 0), 0);
        Check.is("Terms, Details: gets wetter while waiting", Scenes.wet(ford, 0), 6);
        ford.height(1, 4);
        ford.pass(1);
        Check.is("Terms, Crossing: goes when it can", Scenes.place(ford, 0), 1);
    }

    private static void whoHasNotSetOut() {
        FordToll ford = Scenes.fullHouse();
        Check.is("17: nobody crosses who has not set out", ford.pass(24), 0);
        Check.is("Terms, Crossing: nobody goes who has not set out", ford.account(4), 8);
        Scenes.setAllOut(ford);
        Check.is("17: the full house crosses", ford.pass(11), 8);
        Check.is("28: 6, the full house", ford.account(6), 8);
        Check.is("17: and stays there", ford.pass(24), 0);
        Check.is("28: 7, none has set out", ford.account(7), 0);
    }

    /** All stones are 10 high but the one behind, if there is one; the flood rises from 4 to 11. */
    private static FordToll backTo(int load, int stone, boolean toFar, int behind, int height) {
        FordToll ford = Scenes.with(load);
        ford.setOut(0);
        if (!toFar) {
            ford.pass(11);
            ford.setOut(0);
        }
        ford.pass(toFar ? stone + 1 : 10 - stone);
        Check.is("Terms, Crossing: on the stone", Scenes.place(ford, 0), stone);
        if (behind >= 0 && behind <= 9) {
            ford.height(behind, height);
        }
        ford.rain(9);
        ford.pass(1);
        return ford;
    }

    private static void goingBackFromEachStone() {
        for (int load : LOADS) {
            for (int stone = 0; stone <= 9; stone++) {
                FordToll toFar = backTo(load, stone, true, -1, 0);
                Check.is("Terms, Crossing: back to the near bank from " + stone, Scenes.place(toFar, 0), -1);
                Check.is("Terms, Details: has not set out any more", toFar.travellerOf(0, 4), 0);
                Check.is("11: 5, would go far", toFar.travellerOf(0, 5), 1);
                Check.is("Terms, Crossing: 5 wet, of which the stove dries 3", Scenes.wet(toFar, 0), 2);
                FordToll toNear = backTo(load, stone, false, -1, 0);
                Check.is("Terms, Crossing: back to the far bank from " + stone, Scenes.place(toNear, 0), 10);
                Check.is("11: 5, would go near", toNear.travellerOf(0, 5), 0);
                Check.is("11: 7, going back is no crossing", toNear.travellerOf(0, 7), 1);
                Check.is("28: 14, once", toNear.account(14), 1);
            }
        }
    }

    private static void goingBackOverSeveral() {
        for (int behind = 0; behind < 9; behind++) {
            FordToll toFar = backTo(0, 9, true, behind, 11);
            Check.is("Terms, Crossing: back from 9 to one as high as the flood", Scenes.place(toFar, 0), behind);
            Check.is("Terms, Details: 5 wet for all of it, and 2 awash", Scenes.wet(toFar, 0), 7);
            Check.is("28: 14, once over several stones", toFar.account(14), 1);
            Check.is("11: 4, still out on a stone", toFar.travellerOf(0, 4), 1);
            FordToll toNear = backTo(9, 0, false, 9 - behind, 14);
            Check.is("Terms, Crossing: back from 0 to a dry one", Scenes.place(toNear, 0), 9 - behind);
            Check.is("Terms, Details: 5 wet for all of it, 1 less", Scenes.wet(toNear, 0), 4);
        }
        Check.is("Terms, Crossing: not to a stone ahead", Scenes.place(backTo(4, 5, true, 6, 30), 0), -1);
        Check.is("Terms, Crossing: not to a stone ahead, near", Scenes.place(backTo(4, 5, false, 4, 30), 0), 10);
        FordToll nearest = Scenes.with(0);
        Check.setHeights(nearest, 30, 30, 30, 10);
        nearest.setOut(0);
        nearest.pass(6);
        nearest.rain(9);
        nearest.pass(1);
        Check.is("Terms, Crossing: to the nearest of several", Scenes.place(nearest, 0), 2);
    }

    private static void goingBackIsForAllOfIt() {
        FordToll ford = Scenes.with(0);
        Check.setHeights(ford, 30, 14, 10);
        ford.setOut(0);
        ford.pass(3);
        ford.rain(9);
        ford.pass(1);
        Check.is("Terms, Crossing: back to a dry one", Scenes.place(ford, 0), 1);
        Check.is("Terms, Boots: 5 and 1 less", Scenes.wet(ford, 0), 4);
        ford.pass(1);
        Check.is("Terms, Crossing: and back again in the next hour", Scenes.place(ford, 0), 0);
        Check.is("Terms, Boots: 5 more and 1 less", Scenes.wet(ford, 0), 8);
        Check.is("28: 14, twice", ford.account(14), 2);
    }

    private static void severalGoBack() {
        FordToll ford = Scenes.with(0, 4, 9, 0, 4, 9, 0, 4);
        Scenes.setAllOut(ford);
        ford.pass(1);
        ford.rain(9);
        Check.is("17: none crossed", ford.pass(1), 0);
        Check.is("Terms, Crossing: each one on it goes back", Scenes.places(ford), "-1 -1 -1 -1 -1 -1 -1 -1");
        Check.is("28: 14, the full house", ford.account(14), 8);
        Check.is("Terms, Boots: 5 each, 3 less for two", Scenes.wets(ford), "2 2 5 5 5 5 5 5");
        Check.is("Terms, Details: no fee is given back", ford.account(12), 2 + 2 + 5 + 2 + 2 + 5 + 2 + 2);
        FordToll apart = Scenes.with(0, 0, 0);
        apart.height(0, 30);
        apart.height(1, 11);
        apart.setOut(0);
        apart.pass(2);
        apart.setOut(1);
        apart.pass(1);
        apart.setOut(2);
        apart.pass(1);
        Check.is("Terms, Crossing: on three stones", Scenes.places(apart), "3 1 0");
        apart.rain(9);
        apart.pass(1);
        Check.is("Terms, Crossing: one goes back, one waits, one goes", Scenes.places(apart), "1 1 1");
        Check.is("Terms, Boots: by going back and awash", Scenes.wets(apart), "7 2 2");
    }

    private static void whoIsNotUnder() {
        FordToll ford = Scenes.with(0, 0);
        Check.setHeights(ford, 11, 10);
        Scenes.setAllOut(ford);
        ford.pass(1);
        ford.stop(0);
        ford.rain(9);
        ford.pass(1);
        Check.is("Terms, Crossing: as high as the flood is not under", Scenes.places(ford), "0 0");
        Check.is("28: 14, none", ford.account(14), 0);
        Check.is("Terms, Boots: both awash", Scenes.wets(ford), "2 2");
        ford.rain(3);
        ford.pass(1);
        Check.is("Terms, Crossing: lower by 1 is under", Scenes.places(ford), "-1 -1");
    }

    private static void stoppedGoesBack() {
        FordToll ford = Scenes.with(0, 0);
        ford.height(0, 30);
        Scenes.setAllOut(ford);
        ford.pass(2);
        ford.stop(1);
        ford.rain(9);
        ford.pass(1);
        Check.is("Terms, Details: who is stopped goes back all the same", Scenes.places(ford), "0 0");
        Check.is("11: 6, stopped still on a stone", ford.travellerOf(1, 6), 1);
        Check.is("11: 4, out still on a stone", ford.travellerOf(1, 4), 1);
        ford.rain(0);
        ford.pass(4);
        Check.is("Terms, Details: who is stopped waits", Scenes.places(ford), "4 0");
        FordToll bank = Scenes.with(0);
        bank.setOut(0);
        bank.pass(1);
        bank.stop(0);
        bank.rain(9);
        bank.pass(1);
        Check.is("Terms, Details: not stopped any more on the bank", bank.travellerOf(0, 6), 0);
        Check.refused("15: reason 3 after going back", bank, 3, -1, () -> bank.go(0));
    }

    private static void goingOnAfterGoingBack() {
        FordToll ford = Scenes.with(0);
        Check.setHeights(ford, 11, 10);
        ford.setOut(0);
        ford.pass(2);
        ford.rain(9);
        ford.pass(1);
        Check.is("Terms, Details: back, and waits before the stone under", Scenes.place(ford, 0), 0);
        ford.rain(1);
        ford.pass(1);
        Check.is("Terms, Details: goes on from there", Scenes.place(ford, 0), 1);
        ford.pass(9);
        Check.is("Terms, Details: and crosses", Scenes.place(ford, 0), 10);
        Check.is("12: for one fee", ford.account(12), 2);
    }

    private static void orderOfAnHour() {
        FordToll flood = Scenes.with(9);
        flood.rain(5);
        flood.setOut(0);
        flood.pass(1);
        Check.is("Terms, An hour goes by: dry when the flood is 7", Scenes.place(flood, 0), 0);
        FordToll first = Scenes.with(9);
        first.rain(6);
        first.setOut(0);
        first.pass(1);
        Check.is("Terms, An hour goes by: first the flood, to 8", Scenes.place(first, 0), -1);
        FordToll back = Scenes.with(0);
        back.height(0, 10);
        back.setOut(0);
        back.pass(1);
        back.rain(9);
        back.pass(1);
        back.rain(0);
        back.pass(1);
        Check.is("Terms, An hour goes by: who went back does not go again", Scenes.place(back, 0), -1);
        FordToll wet = Scenes.with(0);
        Check.setHeights(wet, 7, 6, 7);
        wet.setOut(0);
        wet.pass(1);
        Check.is("Terms, An hour goes by: dry after going", Scenes.wet(wet, 0), 0);
        wet.pass(1);
        Check.is("Terms, An hour goes by: wet by the stone one came to", Scenes.wet(wet, 0), 2);
        wet.pass(1);
        Check.is("Terms, An hour goes by: drier on the one one came to", Scenes.wet(wet, 0), 1);
        Check.is("Terms, An hour goes by: then the next hour begins", wet.account(0), 3);
    }

    private static void crossedAndBack() {
        FordToll ford = Scenes.with(0, 4, 9);
        Scenes.setAllOut(ford);
        Check.is("17: three in one hour", ford.pass(11), 3);
        ford.setOut(0);
        ford.setOut(2);
        Check.is("17: two of three", ford.pass(11), 2);
        Check.is("28: 13, five", ford.account(13), 5);
        Check.is("11: 7 of each", Scenes.numbers(ford, 7), "2 1 2");
        ford.leave(0);
        Check.is("Terms, Details: the crossings so far are those of who left, too", ford.account(13), 5);
    }
}
