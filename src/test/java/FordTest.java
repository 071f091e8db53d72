import java.util.NoSuchElementException;

/** Promises 1 to 9: the ford. */
public final class FordTest {
    public static void main(String[] args) {
        newObject();
        height();
        heightInUse();
        rain();
        letters();
        stoneOf();
        under();
        floodTwoWays();
        clearIn();
        Check.end("FordTest");
    }

    private static void newObject() {
        FordToll ford = new FordToll();
        for (int stone = 0; stone < 10; stone++) {
            Check.is("1: height", ford.stoneOf(stone, 0), 10);
        }
        for (int what = 0; what <= 18; what++) {
            Check.is("1: account " + what, ford.account(what), what == 1 ? 4 : 0);
        }
        Check.is("1: line", Check.line(ford), ".......... 4");
    }

    private static void height() {
        FordToll ford = new FordToll();
        Check.is("2: before", ford.height(0, 1), 10);
        Check.is("2: before again", ford.height(0, 30), 1);
        Check.is("2: now", ford.stoneOf(0, 0), 30);
        Check.is("2: last stone", ford.height(9, 30), 10);
        Check.is("2: the same height is a change", ford.height(9, 30), 30);
        Check.is("2: changes", ford.account(18), 4);
        Check.fails("2: stone -1", IndexOutOfBoundsException.class, () -> ford.height(-1, 5));
        Check.fails("2: stone 10", IndexOutOfBoundsException.class, () -> ford.height(10, 5));
        Check.fails("2: stone first", IndexOutOfBoundsException.class, () -> ford.height(10, 0));
        Check.fails("2: far stone", IndexOutOfBoundsException.class, () -> ford.height(Integer.MIN_VALUE, 5));
        Check.fails("2: height 0", IllegalArgumentException.class, () -> ford.height(3, 0));
        Check.fails("2: height 31", IllegalArgumentException.class, () -> ford.height(3, 31));
        Check.is("2: changes after wrong calls", ford.account(18), 4);
        Check.fails("2: a wrong argument is no refusal", NoSuchElementException.class, () -> ford.refusal(false));
    }

    private static void heightInUse() {
        FordToll ford = new FordToll();
        for (int load = 0; load < 3; load++) {
            ford.traveller(load);
        }
        ford.setOut(2);
        ford.setOut(1);
        ford.pass(1);
        Check.refused("2: in use", ford, 6, 1, () -> ford.height(0, 5));
        Check.fails("2: range before refusal", IllegalArgumentException.class, () -> ford.height(0, 31));
        Check.is("2: kept", ford.stoneOf(0, 0), 10);
        Check.is("2: another stone", ford.height(1, 5), 10);
        ford.setOut(0);
        ford.pass(1);
        Check.refused("2: in use by the first", ford, 6, 0, () -> ford.height(0, 5));
    }

    private static void rain() {
        FordToll ford = new FordToll();
        Check.is("3: before", ford.rain(9), 0);
        Check.is("3: before again", ford.rain(0), 9);
        Check.is("3: once more", ford.rain(3), 0);
        Check.fails("3: -1", IllegalArgumentException.class, () -> ford.rain(-1));
        Check.fails("3: 10", IllegalArgumentException.class, () -> ford.rain(10));
        Check.is("3: now", ford.account(2), 3);
        Check.is("3: the flood waits for the hour", ford.account(1), 4);
        Check.is("3: changes", ford.account(18), 3);
    }

    private static void letters() {
        FordToll ford = new FordToll();
        Check.is("4: 50", ford.letters(50), 50);
        Check.is("4: 48", ford.letters(48), 98);
        Check.refused("4: 100", ford, 5, 98, () -> ford.letters(2));
        Check.is("4: 99", ford.letters(1), 99);
        Check.refused("4: full", ford, 5, 99, () -> ford.letters(1));
        Check.fails("4: 0", IllegalArgumentException.class, () -> ford.letters(0));
        Check.fails("4: 51", IllegalArgumentException.class, () -> ford.letters(51));
        Check.fails("4: -1", IllegalArgumentException.class, () -> ford.letters(-1));
        Check.is("4: put", ford.account(11), 99);
        Check.is("4: bag", ford.account(8), 99);
        Check.is("4: changes", ford.account(18), 3);
        bagAbove99();
    }

    private static void bagAbove99() {
        FordToll ford = new FordToll();
        ford.traveller(0);
        ford.letters(50);
        ford.letters(49);
        ford.setOut(0);
        Check.is("4: taken", ford.account(8), 87);
        ford.letters(12);
        ford.pass(1);
        ford.rain(7);
        ford.pass(1);
        Check.is("4: not under yet", ford.travellerOf(0, 3), 1);
        ford.pass(1);
        Check.is("4: back on the bank", ford.travellerOf(0, 3), -1);
        Check.is("4: more than 99 letters", ford.account(8), 111);
        Check.is("4: none with the walker", ford.travellerOf(0, 8), 0);
        Check.refused("4: more than 99", ford, 5, 111, () -> ford.letters(1));
    }

    private static void stoneOf() {
        FordToll ford = new FordToll();
        Check.setHeights(ford, 3, 4, 5, 6, 7, 30);
        int[] states = {2, 1, 1, 1, 0, 0};
        for (int stone = 0; stone < states.length; stone++) {
            Check.is("5: state of " + stone, ford.stoneOf(stone, 1), states[stone]);
        }
        Check.is("5: height", ford.stoneOf(5, 0), 30);
        Check.fails("5: stone -1", IndexOutOfBoundsException.class, () -> ford.stoneOf(-1, 0));
        Check.fails("5: stone 10", IndexOutOfBoundsException.class, () -> ford.stoneOf(10, 3));
        Check.fails("5: what -1", IllegalArgumentException.class, () -> ford.stoneOf(0, -1));
        Check.fails("5: what 3", IllegalArgumentException.class, () -> ford.stoneOf(9, 3));
        FordToll busy = new FordToll();
        busy.traveller(0);
        busy.traveller(5);
        busy.setOut(0);
        busy.setOut(1);
        busy.pass(3);
        Check.is("5: two on a stone", busy.stoneOf(2, 2), 2);
        Check.is("5: none on a stone", busy.stoneOf(1, 2), 0);
    }

    private static void under() {
        FordToll ford = new FordToll();
        Check.is("6: none", ford.under(), 0);
        ford.height(0, 3);
        ford.height(4, 1);
        ford.height(9, 3);
        ford.height(5, 4);
        Check.is("6: three", ford.under(), 1 | 1 << 4 | 1 << 9);
        ford.rain(9);
        ford.pass(1);
        Check.is("6: all", ford.under(), 1023);
    }

    private static void floodTwoWays() {
        for (int start = 0; start <= 9; start++) {
            for (int rain = 0; rain <= 9; rain++) {
                FordToll ford = new FordToll();
                ford.rain(start);
                ford.pass(2 + start);
                ford.rain(rain);
                int level = ford.account(1);
                for (int hours = 0; hours <= 60; hours++) {
                    Check.is("7: flood", ford.flood(hours), level);
                    Check.is("8: floodAgain", ford.floodAgain(hours), level);
                    level = Math.min(level + rain, 40);
                    level = level > 4 ? Math.max(level - 2, 4) : level;
                }
                ford.pass(24);
                Check.is("7: asked and gone by", ford.account(1), levelAfter24(start, rain));
            }
        }
        FordToll ford = new FordToll();
        for (int hours : new int[] {-1, 61, Integer.MAX_VALUE, Integer.MIN_VALUE}) {
            Check.fails("7: " + hours, IllegalArgumentException.class, () -> ford.flood(hours));
            Check.fails("8: " + hours, IllegalArgumentException.class, () -> ford.floodAgain(hours));
        }
    }

    private static int levelAfter24(int start, int rain) {
        FordToll ford = new FordToll();
        ford.rain(start);
        ford.pass(2 + start);
        ford.rain(rain);
        return ford.flood(24);
    }

    private static void clearIn() {
        FordToll ford = new FordToll();
        Check.is("9: now", ford.clearIn(), 0);
        ford.rain(9);
        ford.pass(1);
        Check.fails("9: it rises", NoSuchElementException.class, ford::clearIn);
        ford.rain(2);
        Check.fails("9: it stays", NoSuchElementException.class, ford::clearIn);
        ford.rain(1);
        Check.is("9: 11 to 10", ford.clearIn(), 1);
        ford.pass(1);
        Check.is("9: as high as the stones", ford.clearIn(), 0);
        ford.height(7, 4);
        Check.is("9: 10 to 4 by 1", ford.clearIn(), 6);
        ford.rain(0);
        Check.is("9: 10 to 4 by 2", ford.clearIn(), 3);
        ford.height(7, 3);
        Check.fails("9: below the lowest flood", NoSuchElementException.class, ford::clearIn);
    }
}
