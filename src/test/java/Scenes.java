/** Fords in the states from which the tests of edges begin. */
final class Scenes {
    private Scenes() {
    }

    static FordToll with(int... loads) {
        FordToll ford = new FordToll();
        for (int load : loads) {
            ford.traveller(load);
        }
        return ford;
    }

    static FordToll fullHouse() {
        return with(0, 1, 2, 3, 4, 8, 9, 20);
    }

    static void setAllHeights(FordToll ford, int height) {
        for (int stone = 0; stone < 10; stone++) {
            ford.height(stone, height);
        }
    }

    /** From the flood 4 up to any one that can be, 38 at most; the rain of 2 then holds it there. */
    static void letRise(FordToll ford, int level) {
        ford.rain(3);
        for (int left = level - 4; left > 0; left -= 24) {
            ford.pass(Math.min(left, 24));
        }
        ford.rain(2);
    }

    static FordToll atFlood(int level) {
        FordToll ford = new FordToll();
        letRise(ford, level);
        return ford;
    }

    static void setAllOut(FordToll ford) {
        for (int traveller = 0; traveller < ford.account(3); traveller++) {
            ford.setOut(traveller);
        }
    }

    static int place(FordToll ford, int traveller) {
        return ford.travellerOf(traveller, 3);
    }

    static int wet(FordToll ford, int traveller) {
        return ford.travellerOf(traveller, 2);
    }

    /** The wet of all travellers, as in "4 6 0". */
    static String wets(FordToll ford) {
        return numbers(ford, 2);
    }

    static String places(FordToll ford) {
        return numbers(ford, 3);
    }

    static String numbers(FordToll ford, int what) {
        StringBuilder text = new StringBuilder();
        for (int traveller = 0; traveller < ford.account(3); traveller++) {
            text.append(traveller == 0 ? "" : " ").append(ford.travellerOf(traveller, what));
        }
        return text.toString();
    }
}
