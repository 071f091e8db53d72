/** The edges in the promises 28 to 31. */
public final class AccountEdgesTest {
    public static void main(String[] args) {
        wrongAccounts();
        whereTheyAre();
        fullHouseOnEachPlace();
        lettersOfTheFullHouse();
        lettersByTwoWays();
        wetOfAll();
        changesThatCanBeUndone();
        meanWet();
        noMeanWet();
        crossingShare();
        noCrossingShare();
        Check.end("AccountEdgesTest");
    }

    private static void wrongAccounts() {
        for (int what : new int[] {-1, 19, Integer.MIN_VALUE, Integer.MAX_VALUE}) {
            Check.failsAndKeeps("28: what " + what, Scenes::fullHouse, IllegalArgumentException.class, ford -> ford.account(what));
        }
        FordToll ford = new FordToll();
        ford.rain(9);
        ford.pass(3);
        ford.type('w');
        ford.type('e');
        int[] due = {3, 25, 9, 0, 0, 0, 0, 0, 0, 0, 0, 0, 0, 0, 0, 0, 0, 2, 2};
        for (int what = 0; what <= 18; what++) {
            Check.is("28: " + what + " of a ford without travellers", ford.account(what), due[what]);
        }
    }

    private static void countsAre(String what, FordToll ford, int near, int stones, int far, int out) {
        Check.is("28: 3, " + what, ford.account(3), near + stones + far);
        Check.is("28: 4, " + what, ford.account(4), near);
        Check.is("28: 5, " + what, ford.account(5), stones);
        Check.is("28: 6, " + what, ford.account(6), far);
        Check.is("28: 7, " + what, ford.account(7), out);
    }

    private static void whereTheyAre() {
        FordToll ford = Scenes.with(0);
        countsAre("at first", ford, 1, 0, 0, 0);
        ford.setOut(0);
        countsAre("out on the near bank", ford, 1, 0, 0, 1);
        for (int stone = 0; stone <= 9; stone++) {
            ford.pass(1);
            countsAre("on stone " + stone, ford, 0, 1, 0, 1);
        }
        ford.pass(1);
        countsAre("on the far bank", ford, 0, 0, 1, 0);
        ford.setOut(0);
        countsAre("out on the far bank", ford, 0, 0, 1, 1);
        ford.stop(0);
        countsAre("stopped on the far bank", ford, 0, 0, 1, 1);
        ford.go(0);
        ford.pass(11);
        countsAre("on the near bank again", ford, 1, 0, 0, 0);
        ford.leave(0);
        countsAre("when the last one left", ford, 0, 0, 0, 0);
    }

    private static void fullHouseOnEachPlace() {
        FordToll ford = Scenes.fullHouse();
        countsAre("the full house", ford, 8, 0, 0, 0);
        Scenes.setAllOut(ford);
        countsAre("the full house is out", ford, 8, 0, 0, 8);
        ford.pass(10);
        countsAre("the full house on the last stone", ford, 0, 8, 0, 8);
        ford.pass(1);
        countsAre("the full house on the far bank", ford, 0, 0, 8, 0);
        Check.is("28: 13, the full house crossed", ford.account(13), 8);
    }

    private static void lettersOfTheFullHouse() {
        FordToll ford = Scenes.with(0, 0, 0, 0, 0, 0, 0, 0);
        ford.letters(50);
        ford.letters(49);
        Scenes.setAllOut(ford);
        Check.is("28: 9, 8 times 12", ford.account(9), 96);
        Check.is("28: 8, what is left of 99", ford.account(8), 3);
        Check.is("29: what is left of 99", ford.lettersAgain(), 3);
        ford.pass(11);
        Check.is("28: 10, all of them", ford.account(10), 96);
        Check.is("28: 9, none any more", ford.account(9), 0);
        Check.is("29: still", ford.lettersAgain(), 3);
        Check.is("28: 11, as before", ford.account(11), 99);
    }

    private static void lettersByTwoWays() {
        FordToll ford = Scenes.with(3, 0);
        Check.is("29: none", ford.lettersAgain(), 0);
        ford.letters(1);
        Check.is("29: one", ford.lettersAgain(), 1);
        ford.setOut(0);
        Check.is("29: none is left", ford.lettersAgain(), 0);
        Check.is("28: 8, none is left", ford.account(8), 0);
        ford.setOut(1);
        Check.is("29: of an empty bag", ford.lettersAgain(), 0);
        ford.pass(1);
        ford.rain(9);
        ford.pass(1);
        Check.is("29: one came back", ford.lettersAgain(), 1);
        Check.is("28: 8, one came back", ford.account(8), 1);
    }

    private static void wetOfAll() {
        FordToll ford = Scenes.with(0, 0, 0, 0, 0, 0, 0, 0);
        ford.height(0, 5);
        ford.height(1, 3);
        Scenes.setAllOut(ford);
        ford.pass(10);
        Check.is("28: 15, 8 times 20", ford.account(15), 160);
        Check.is("30: 20", ford.meanWet(), 20.0);
        ford.pass(1);
        Check.is("28: 15, at most", ford.account(15), 160);
        Check.is("28: 15, none", Scenes.fullHouse().account(15), 0);
    }

    private static void changesThatCanBeUndone() {
        FordToll ford = new FordToll();
        for (int changes = 0; changes <= 10; changes++) {
            Check.is("28: 18, after changes " + changes, ford.account(18), Math.min(8, changes));
            ford.pass(1);
        }
    }

    private static void meanWet() {
        for (int many = 1; many <= 8; many++) {
            FordToll ford = new FordToll();
            for (int count = 0; count < many; count++) {
                ford.traveller(0);
            }
            Check.is("30: no wet of " + many, ford.meanWet(), 0.0);
            ford.height(0, 6);
            ford.setOut(0);
            ford.pass(1);
            Check.is("30: 2 of " + many, ford.meanWet(), 2.0 / many);
        }
    }

    private static void noMeanWet() {
        Check.failsAndKeeps("30: no travellers", FordToll::new, ArithmeticException.class, FordToll::meanWet);
        FordToll ford = Scenes.with(5);
        ford.leave(0);
        Check.fails("30: the last one left", ArithmeticException.class, ford::meanWet);
    }

    /** Some come to the far bank; the others go back, or none does. */
    private static FordToll someCross(int crossing, int goingBack) {
        FordToll ford = new FordToll();
        for (int count = 0; count < crossing + goingBack; count++) {
            ford.traveller(0);
        }
        for (int count = 0; count < crossing; count++) {
            ford.setOut(count);
        }
        ford.pass(11);
        for (int count = crossing; count < crossing + goingBack; count++) {
            ford.setOut(count);
        }
        ford.pass(1);
        ford.rain(9);
        ford.pass(1);
        return ford;
    }

    private static void crossingShare() {
        Check.is("31: all of one", someCross(1, 0).crossingShare(), 1f);
        Check.is("31: none of one", someCross(0, 1).crossingShare(), 0f);
        Check.is("31: all of eight", someCross(8, 0).crossingShare(), 1f);
        Check.is("31: none of eight", someCross(0, 8).crossingShare(), 0f);
        for (int crossing = 1; crossing <= 7; crossing++) {
            for (int goingBack = 0; goingBack <= 8 - crossing; goingBack++) {
                FordToll ford = someCross(crossing, goingBack);
                Check.is("28: 13", ford.account(13), crossing);
                Check.is("28: 14", ford.account(14), goingBack);
                float due = (float) crossing / (float) (crossing + goingBack);
                Check.is("31: " + crossing + " and " + goingBack, ford.crossingShare(), due);
            }
        }
        FordToll left = someCross(1, 2);
        left.leave(0);
        left.leave(0);
        left.leave(0);
        Check.is("31: a third of those who left", left.crossingShare(), 1f / 3f);
    }

    private static FordToll underWay() {
        FordToll ford = Scenes.with(0, 1);
        Scenes.setAllOut(ford);
        ford.pass(10);
        return ford;
    }

    private static void noCrossingShare() {
        Check.failsAndKeeps("31: a new object", FordToll::new, ArithmeticException.class, FordToll::crossingShare);
        Check.failsAndKeeps("31: under way", AccountEdgesTest::underWay, ArithmeticException.class, FordToll::crossingShare);
        FordToll ford = underWay();
        ford.pass(1);
        Check.is("31: now", ford.crossingShare(), 1f);
        ford.undo();
        Check.fails("31: undone", ArithmeticException.class, ford::crossingShare);
    }
}
