import java.util.NoSuchElementException;

/** The edges in "Terms, The ford", "Terms, Rain and flood" and the promises 1 to 9. */
public final class FordEdgesTest {
    private static final int[] NO_STONES = {-1, 10, Integer.MIN_VALUE, Integer.MAX_VALUE};
    private static final int[] NO_HEIGHTS = {0, 31, -1, Integer.MIN_VALUE, Integer.MAX_VALUE};

    public static void main(String[] args) {
        emptyFord();
        nothingBefore();
        heights();
        wrongHeights();
        heightInUse();
        states();
        rain();
        letters();
        lettersRefused();
        stoneOf();
        stoneOfSeveral();
        under();
        bottomOfTheFlood();
        topOfTheFlood();
        floodAheadFromEveryLevel();
        wrongHours();
        clearInFromTheTop();
        clearInNever();
        Check.end("FordEdgesTest");
    }

    private static void emptyFord() {
        FordToll ford = new FordToll();
        for (int stone = 0; stone < 10; stone++) {
            Check.is("1: height of stone " + stone, ford.stoneOf(stone, 0), 10);
            Check.is("1: stone dry " + stone, ford.stoneOf(stone, 1), 0);
            Check.is("1: nobody on stone " + stone, ford.stoneOf(stone, 2), 0);
        }
        for (int what = 0; what <= 18; what++) {
            Check.is("1: account " + what, ford.account(what), what == 1 ? 4 : 0);
        }
        Check.is("1: no stone under", ford.under(), 0);
        Check.is("1: clear now", ford.clearIn(), 0);
        Check.is("1: the flood now", ford.flood(0), 4);
        Check.is("1: the flood in 60 hours", ford.flood(60), 4);
        Check.is("1: all kinds could cross", ford.kinds(), 7);
        Check.is("1: no letters", ford.lettersAgain(), 0);
        Check.fails("1: no traveller 0", IndexOutOfBoundsException.class, () -> ford.fee(0));
    }

    private static void nothingBefore() {
        Check.failsAndKeeps("1: no answer", FordToll::new, NoSuchElementException.class, ford -> ford.answer(0));
        Check.failsAndKeeps("1: no error position", FordToll::new, NoSuchElementException.class, FordToll::errorPosition);
        Check.failsAndKeeps("1: no reason", FordToll::new, NoSuchElementException.class, ford -> ford.refusal(false));
        Check.failsAndKeeps("1: no detail", FordToll::new, NoSuchElementException.class, ford -> ford.refusal(true));
        Check.failsAndKeeps("1: no line", FordToll::new, NoSuchElementException.class, ford -> ford.written(0));
        Check.failsAndKeeps("1: no mean", FordToll::new, ArithmeticException.class, FordToll::meanWet);
        Check.failsAndKeeps("1: no share", FordToll::new, ArithmeticException.class, FordToll::crossingShare);
        Check.failsAndKeeps("1: no change", FordToll::new, IllegalStateException.class, FordToll::undo);
        Check.failsAndKeeps("1: no snapshot", FordToll::new, IllegalStateException.class, FordToll::restore);
    }

    private static void heights() {
        for (int stone = 0; stone <= 9; stone += 9) {
            FordToll ford = new FordToll();
            int before = 10;
            for (int height = 1; height <= 30; height++) {
                Check.is("2: height before, of " + stone, ford.height(stone, height), before);
                Check.is("2: height " + height + " of " + stone, ford.stoneOf(stone, 0), height);
                before = height;
            }
            Check.is("2: the stone beside stays", ford.stoneOf(stone == 0 ? 1 : 8, 0), 10);
            Check.is("2: at most 8 changes are kept", ford.account(18), 8);
        }
        FordToll all = new FordToll();
        for (int stone = 0; stone < 10; stone++) {
            Check.is("2: each stone has its own height, " + stone, all.height(stone, stone + 11), 10);
        }
        for (int stone = 0; stone < 10; stone++) {
            Check.is("2: and keeps it, " + stone, all.height(stone, 30), stone + 11);
        }
    }

    private static FordToll someHeights() {
        FordToll ford = Scenes.fullHouse();
        Check.setHeights(ford, 1, 30, 7);
        return ford;
    }

    private static void wrongHeights() {
        for (int stone : NO_STONES) {
            Check.failsAndKeeps("2: stone " + stone, FordEdgesTest::someHeights, IndexOutOfBoundsException.class,
                ford -> ford.height(stone, 5));
            Check.failsAndKeeps("2: the stone is looked at first, " + stone, FordEdgesTest::someHeights,
                IndexOutOfBoundsException.class, ford -> ford.height(stone, 31));
        }
        for (int height : NO_HEIGHTS) {
            Check.failsAndKeeps("2: height " + height, FordEdgesTest::someHeights, IllegalArgumentException.class,
                ford -> ford.height(9, height));
        }
    }

    /** Travellers 1 and 2 are on the first stone, 0 and 3 on the last one. */
    private static FordToll onBothEnds() {
        FordToll ford = Scenes.with(0, 5, 12, 20);
        ford.setOut(0);
        ford.setOut(3);
        ford.pass(9);
        ford.setOut(2);
        ford.setOut(1);
        ford.pass(1);
        return ford;
    }

    private static void heightInUse() {
        Check.is("2: on both ends", Scenes.places(onBothEnds()), "9 0 0 9");
        Check.refusedAndKeeps("2: reason 6, the first stone", FordEdgesTest::onBothEnds, 6, 1, ford -> ford.height(0, 30));
        Check.refusedAndKeeps("2: reason 6, the last stone", FordEdgesTest::onBothEnds, 6, 0, ford -> ford.height(9, 1));
        Check.refusedAndKeeps("2: reason 6, the same height", FordEdgesTest::onBothEnds, 6, 0, ford -> ford.height(9, 10));
        for (int height : NO_HEIGHTS) {
            Check.failsAndKeeps("2: the height is looked at before the travellers, " + height, FordEdgesTest::onBothEnds,
                IllegalArgumentException.class, ford -> ford.height(0, height));
        }
        FordToll ford = onBothEnds();
        Check.is("2: the stone behind is free", ford.height(1, 4), 10);
        Check.is("2: the stone before is free", ford.height(8, 30), 10);
        ford.height(8, 10);
        ford.pass(1);
        Check.is("2: free when they went to the bank", ford.height(9, 8), 10);
        Check.is("2: who is on a bank is on no stone", ford.account(6), 2);
    }

    private static void states() {
        for (int level : new int[] {4, 5, 6, 9, 10, 27, 28, 29, 30, 31, 38}) {
            FordToll ford = Scenes.atFlood(level);
            for (int height = 1; height <= 30; height++) {
                int stone = height % 10;
                ford.height(stone, height);
                int due = height < level ? 2 : height == level || height == level + 1 || height == level + 2 ? 1 : 0;
                String at = ", height " + height + " at the flood " + level;
                Check.is("Terms, The ford: dry, awash or under" + at, ford.stoneOf(stone, 1), due);
                Check.is("6: the bit" + at, ford.under() >> stone & 1, due == 2 ? 1 : 0);
            }
        }
    }

    private static FordToll rainOf5() {
        FordToll ford = new FordToll();
        ford.rain(5);
        return ford;
    }

    private static void rain() {
        FordToll ford = new FordToll();
        int before = 0;
        for (int rain = 0; rain <= 9; rain++) {
            Check.is("3: rain before " + rain, ford.rain(rain), before);
            Check.is("3: rain now " + rain, ford.account(2), rain);
            before = rain;
        }
        Check.is("3: from the most to none", ford.rain(0), 9);
        Check.is("3: no hour went by", ford.account(0), 0);
        Check.is("3: the flood stays", ford.account(1), 4);
        for (int rain : new int[] {-1, 10, Integer.MIN_VALUE, Integer.MAX_VALUE}) {
            Check.failsAndKeeps("3: rain " + rain, FordEdgesTest::rainOf5, IllegalArgumentException.class, toll -> toll.rain(rain));
        }
    }

    private static FordToll withLetters(int... puts) {
        FordToll ford = new FordToll();
        for (int many : puts) {
            ford.letters(many);
        }
        return ford;
    }

    private static void letters() {
        FordToll ford = new FordToll();
        Check.is("Terms, Mail: the bag is empty at first", ford.account(8), 0);
        Check.is("4: the least", ford.letters(1), 1);
        Check.is("4: the most", ford.letters(50), 51);
        Check.is("4: just 99", ford.letters(48), 99);
        Check.is("28: 11, put so far", ford.account(11), 99);
        for (int many : new int[] {0, 51, -1, Integer.MIN_VALUE, Integer.MAX_VALUE}) {
            Check.failsAndKeeps("4: " + many + " into an empty bag", FordToll::new, IllegalArgumentException.class,
                toll -> toll.letters(many));
            Check.failsAndKeeps("4: the number is looked at before the full bag, " + many, () -> withLetters(50, 49),
                IllegalArgumentException.class, toll -> toll.letters(many));
        }
    }

    private static void lettersRefused() {
        Check.refusedAndKeeps("4: reason 5, one into a full bag", () -> withLetters(50, 49), 5, 99, ford -> ford.letters(1));
        Check.refusedAndKeeps("4: reason 5, 50 into a full bag", () -> withLetters(50, 49), 5, 99, ford -> ford.letters(50));
        Check.refusedAndKeeps("4: reason 5, just 100", () -> withLetters(50), 5, 50, ford -> ford.letters(50));
        Check.is("4: just 99 in two", withLetters(50).letters(49), 99);
        FordToll ford = withLetters(50, 49);
        ford.traveller(3);
        ford.setOut(0);
        Check.is("4: as many as were taken", ford.letters(3), 99);
        Check.is("28: 11, also above 99", ford.account(11), 102);
    }

    private static void stoneOf() {
        for (int stone : NO_STONES) {
            Check.failsAndKeeps("5: stone " + stone, FordEdgesTest::someHeights, IndexOutOfBoundsException.class,
                ford -> ford.stoneOf(stone, 0));
            Check.failsAndKeeps("5: the stone is looked at first, " + stone, FordEdgesTest::someHeights,
                IndexOutOfBoundsException.class, ford -> ford.stoneOf(stone, 3));
        }
        for (int what : new int[] {-1, 3, Integer.MIN_VALUE, Integer.MAX_VALUE}) {
            Check.failsAndKeeps("5: what " + what, FordEdgesTest::someHeights, IllegalArgumentException.class,
                ford -> ford.stoneOf(9, what));
        }
        FordToll ford = Scenes.with(0, 1, 2, 3, 0, 1, 2, 3);
        Scenes.setAllOut(ford);
        for (int stone = 0; stone < 10; stone++) {
            ford.pass(1);
            Check.is("5: all of the full house on stone " + stone, ford.stoneOf(stone, 2), 8);
            Check.is("5: none on the stone beside " + stone, ford.stoneOf(stone == 9 ? 8 : stone + 1, 2), 0);
        }
        ford.pass(1);
        Check.is("5: who is on the far bank is on no stone", ford.stoneOf(9, 2), 0);
    }

    private static void stoneOfSeveral() {
        FordToll ford = onBothEnds();
        Check.is("5: on the first stone, but not the traveller 0", ford.stoneOf(0, 2), 2);
        Check.is("5: on the last stone", ford.stoneOf(9, 2), 2);
        Check.is("5: between them", ford.stoneOf(5, 2), 0);
        ford.stop(0);
        ford.pass(1);
        Check.is("5: on the last stone, the traveller 0 alone", ford.stoneOf(9, 2), 1);
        Check.is("5: on the second stone", ford.stoneOf(1, 2), 2);
        Check.is("5: on the first stone", ford.stoneOf(0, 2), 0);
    }

    private static void under() {
        for (int stone = 0; stone < 10; stone++) {
            FordToll ford = Scenes.atFlood(9);
            ford.height(stone, 8);
            Check.is("6: stone " + stone + " alone", ford.under(), 1 << stone);
            ford.height(stone, 9);
            Check.is("6: as high as the flood, stone " + stone, ford.under(), 0);
        }
        Check.is("6: none", Scenes.atFlood(10).under(), 0);
        Check.is("6: all", Scenes.atFlood(11).under(), 1023);
    }

    private static void bottomOfTheFlood() {
        int[] afterAnHour = {4, 4, 4, 5, 6, 7, 8, 9, 10, 11};
        int[] fromFive = {4, 4, 5, 6, 7, 8, 9, 10, 11, 12};
        for (int rain = 0; rain <= 9; rain++) {
            flowsTo(4, rain, afterAnHour[rain]);
            flowsTo(5, rain, fromFive[rain]);
        }
        flowsTo(6, 0, 4);
        flowsTo(7, 0, 5);
        flowsTo(6, 1, 5);
    }

    private static void topOfTheFlood() {
        flowsTo(38, 0, 36);
        flowsTo(38, 1, 37);
        flowsTo(38, 2, 38);
        flowsTo(38, 3, 38);
        flowsTo(38, 9, 38);
        flowsTo(31, 9, 38);
        flowsTo(32, 9, 38);
        flowsTo(30, 9, 37);
        flowsTo(37, 3, 38);
        flowsTo(36, 3, 37);
        flowsTo(37, 9, 38);
    }

    private static void flowsTo(int level, int rain, int due) {
        FordToll ford = Scenes.atFlood(level);
        String what = "Terms, Rain and flood: from " + level + " by the rain " + rain;
        ford.rain(rain);
        Check.is(what + ", ahead", ford.flood(1), due);
        Check.is(what + ", ahead again", ford.floodAgain(1), due);
        ford.pass(1);
        Check.is(what, ford.account(1), due);
    }

    private static void floodAheadFromEveryLevel() {
        for (int level = 4; level <= 38; level++) {
            for (int rain = 0; rain <= 9; rain++) {
                FordToll ford = Scenes.atFlood(level);
                ford.rain(rain);
                int due = level;
                for (int hours = 0; hours <= 60; hours++) {
                    String ahead = " from " + level + ", rain " + rain + ", in " + hours;
                    Check.is("7: flood" + ahead, ford.flood(hours), due);
                    Check.is("8: floodAgain" + ahead, ford.floodAgain(hours), due);
                    due = due + rain > 40 ? 40 : due + rain;
                    due = due == 4 ? 4 : due == 5 ? 4 : due - 2;
                }
                Check.is("7: the flood itself stays", ford.account(1), level);
                Check.is("7: no hour goes by", ford.account(0), level - 4);
            }
        }
    }

    private static void wrongHours() {
        for (int hours : new int[] {-1, 61, Integer.MIN_VALUE, Integer.MAX_VALUE}) {
            Check.failsAndKeeps("7: hours " + hours, FordEdgesTest::rainOf5, IllegalArgumentException.class,
                ford -> ford.flood(hours));
            Check.failsAndKeeps("8: hours " + hours, FordEdgesTest::rainOf5, IllegalArgumentException.class,
                ford -> ford.floodAgain(hours));
        }
    }

    private static void clearInFromTheTop() {
        FordToll ford = Scenes.atFlood(38);
        ford.rain(1);
        Check.is("9: all stones from 38 to 10, by 1", ford.clearIn(), 28);
        ford.height(9, 4);
        Check.is("9: the longest, from 38 to the bottom by 1", ford.clearIn(), 34);
        ford.height(9, 5);
        Check.is("9: to 5 by 1", ford.clearIn(), 33);
        ford.rain(0);
        Check.is("9: to 5 by 2, that is, to 4", ford.clearIn(), 17);
        ford.height(9, 6);
        Check.is("9: to 6 by 2", ford.clearIn(), 16);
        ford.pass(15);
        Check.is("9: an hour before", ford.clearIn(), 1);
        ford.pass(1);
        Check.is("9: now", ford.clearIn(), 0);
        Check.is("9: awash is not under", ford.stoneOf(9, 1), 1);
        ford.rain(9);
        Check.is("9: now, though it rises", ford.clearIn(), 0);
    }

    private static FordToll underAt(int level, int rain, int height) {
        FordToll ford = Scenes.atFlood(level);
        Scenes.setAllHeights(ford, 30);
        ford.height(0, height);
        ford.rain(rain);
        return ford;
    }

    private static void clearInNever() {
        Check.failsAndKeeps("9: lower than the bottom of the flood", () -> underAt(4, 0, 3), NoSuchElementException.class,
            FordToll::clearIn);
        Check.failsAndKeeps("9: the flood stays", () -> underAt(11, 2, 10), NoSuchElementException.class, FordToll::clearIn);
        Check.failsAndKeeps("9: the flood rises", () -> underAt(11, 3, 10), NoSuchElementException.class, FordToll::clearIn);
        Check.failsAndKeeps("9: the flood stays at its top", () -> underAt(38, 9, 30), NoSuchElementException.class,
            FordToll::clearIn);
        Check.is("9: as high as the bottom of the flood", underAt(4, 0, 4).clearIn(), 0);
        Check.is("9: the highest stones, from the top", underAt(38, 1, 30).clearIn(), 8);
    }
}
