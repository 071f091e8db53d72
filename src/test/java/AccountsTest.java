/** Promises 28 to 31: accounts. */
public final class AccountsTest {
    public static void main(String[] args) {
        accounts();
        lettersAgain();
        meanWet();
        crossingShare();
        Check.end("AccountsTest");
    }

    private static void accounts() {
        FordToll ford = new FordToll();
        for (int load : new int[] {1, 2, 5, 10, 0}) {
            ford.traveller(load);
        }
        ford.letters(50);
        ford.setOut(0);
        ford.setOut(2);
        ford.pass(11);
        ford.height(0, 5);
        ford.setOut(1);
        ford.setOut(3);
        ford.pass(2);
        ford.setOut(4);
        ford.rain(3);
        ford.pass(2);
        Check.ask(ford, "out");
        Check.typeAll(ford, "abcd");
        // Walker 1 is on the dry stone 3, donkey 3 waits on the near bank, walker 4 went back from stone 0 with 7 wet less 3.
        int[] due = {15, 6, 3, 5, 2, 1, 2, 2, 35, 6, 9, 50, 15, 2, 1, 4, 2, 4, 8};
        for (int what = 0; what <= 18; what++) {
            Check.is("28: " + what, ford.account(what), due[what]);
        }
        Check.fails("28: -1", IllegalArgumentException.class, () -> ford.account(-1));
        Check.fails("28: 19", IllegalArgumentException.class, () -> ford.account(19));
    }

    private static void lettersAgain() {
        FordToll ford = new FordToll();
        Check.is("29: none", ford.lettersAgain(), 0);
        ford.traveller(0);
        ford.traveller(2);
        ford.letters(40);
        Check.is("29: put", ford.lettersAgain(), 40);
        ford.setOut(0);
        Check.is("29: with a walker", ford.lettersAgain(), 28);
        ford.pass(11);
        Check.is("29: on the far bank", ford.lettersAgain(), 28);
        ford.setOut(1);
        Check.is("29: with another", ford.lettersAgain(), 22);
        ford.pass(1);
        ford.rain(7);
        ford.pass(1);
        Check.is("29: not yet", ford.lettersAgain(), 22);
        ford.pass(1);
        Check.is("29: come back", ford.lettersAgain(), 28);
        Check.is("29: as in the bag", ford.account(8), 28);
    }

    private static void meanWet() {
        FordToll ford = new FordToll();
        Check.fails("30: none", ArithmeticException.class, ford::meanWet);
        for (int index = 0; index < 3; index++) {
            ford.traveller(0);
        }
        Check.is("30: dry", ford.meanWet(), 0.0);
        ford.height(0, 5);
        ford.setOut(0);
        ford.pass(1);
        Check.is("30: two thirds", ford.meanWet(), 2.0 / 3.0);
        ford.leave(1);
        Check.is("30: a half of two", ford.meanWet(), 1.0);
        FordToll left = new FordToll();
        left.traveller(0);
        left.leave(0);
        Check.fails("30: none left", ArithmeticException.class, left::meanWet);
    }

    private static void crossingShare() {
        FordToll ford = new FordToll();
        Check.fails("31: none", ArithmeticException.class, ford::crossingShare);
        for (int index = 0; index < 3; index++) {
            ford.traveller(0);
            ford.setOut(index);
        }
        Check.fails("31: under way", ArithmeticException.class, ford::crossingShare);
        ford.pass(11);
        Check.is("31: all", ford.crossingShare(), 1f);
        ford.setOut(0);
        ford.pass(1);
        ford.rain(9);
        ford.pass(2);
        Check.is("31: three of four", ford.crossingShare(), 0.75f);
        ford.leave(2);
        Check.is("31: also of those who left", ford.crossingShare(), 0.75f);
        FordToll back = new FordToll();
        back.traveller(0);
        back.setOut(0);
        back.pass(1);
        back.rain(9);
        back.pass(1);
        Check.is("31: none of one", back.crossingShare(), 0f);
        thirds();
    }

    private static void thirds() {
        FordToll ford = new FordToll();
        ford.traveller(0);
        ford.traveller(0);
        ford.traveller(0);
        ford.setOut(0);
        ford.pass(11);
        ford.setOut(1);
        ford.setOut(2);
        ford.pass(1);
        ford.rain(9);
        ford.pass(1);
        Check.is("31: a third as a float", ford.crossingShare(), 1f / 3f);
    }
}
