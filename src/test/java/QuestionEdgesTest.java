import java.util.NoSuchElementException;

/** The edges in "Terms, Questions" and the promises 21 to 27. */
public final class QuestionEdgesTest {
    private static final String[] NAMES = {"walker", "carrier", "donkey", "near", "far", "stone", "out"};
    private static final String[] MEASURES = {"wet", "load", "crossed"};

    public static void main(String[] args) {
        typing();
        fullBuffer();
        bufferIsEmptyAfterwards();
        places();
        wetEdges();
        loadEdges();
        crossedEdges();
        twoDigits();
        emptyAndFullHouse();
        partsAndSigns();
        fourOpen();
        fifthOpen();
        openAgain();
        wordsLetterByLetter();
        wordsCutShort();
        signsAndDigits();
        afterAPart();
        beforeAPart();
        brackets();
        errorsAtTheEndOfTheBuffer();
        errorPositionStays();
        answers();
        answerStays();
        describe();
        describeTravellers();
        written();
        Check.end("QuestionEdgesTest");
    }

    private static void typing() {
        FordToll ford = new FordToll();
        char[] characters = {'w', (char) 0, (char) 255, (char) 256, (char) 65535, ' ', '\n'};
        for (int index = 0; index < characters.length; index++) {
            Check.is("21: any character, the number " + index, ford.type(characters[index]), index + 1);
            Check.is("28: 17", ford.account(17), index + 1);
        }
        for (char character : characters) {
            if (character != 'w') {
                malformed("far" + character, 3);
                malformed(String.valueOf(character), 0);
            }
        }
    }

    private static FordToll typed(String text) {
        FordToll ford = Scenes.with(0, 5, 9);
        Check.typeAll(ford, text);
        return ford;
    }

    private static String longest() {
        return "near" + "/far".repeat(14);
    }

    private static void fullBuffer() {
        Check.is("21: 60 characters", longest().length(), 60);
        FordToll ford = typed(longest().substring(0, 59));
        Check.is("21: the 60th", ford.type('r'), 60);
        Check.failsAndKeeps("21: the 61st", () -> typed(longest()), IllegalStateException.class, toll -> toll.type('r'));
        Check.fails("21: the 61st", IllegalStateException.class, () -> ford.type('x'));
        Check.is("22: a question of 60 characters", ford.ask(), 3);
        Check.is("28: 17, after the question", ford.account(17), 0);
        Check.is("21: the first again", ford.type('f'), 1);
    }

    private static void bufferIsEmptyAfterwards() {
        FordToll ford = typed("far+");
        Check.fails("22: malformed", IllegalArgumentException.class, ford::ask);
        Check.is("22: empty, though an exception was thrown", ford.account(17), 0);
        Check.fails("22: the empty buffer", IllegalArgumentException.class, ford::ask);
        Check.is("24: the length of the empty buffer", ford.errorPosition(), 0);
        Check.is("22: nothing of it is left", Check.ask(ford, "near"), 3);
        Check.is("22: empty after a good one", ford.account(17), 0);
        Check.is("22: shorter than the one before", Check.ask(ford, "far"), 0);
    }

    /** 0 near and not out, 1 near and out, 2 on the first stone, 3 on the last, 4 far and out, 5 far and not out. */
    private static FordToll everywhere() {
        FordToll ford = Scenes.with(20, 20, 0, 4, 3, 8);
        ford.setOut(4);
        ford.setOut(5);
        ford.pass(1);
        ford.setOut(3);
        ford.pass(10);
        ford.height(0, 4);
        ford.setOut(2);
        ford.setOut(1);
        ford.stop(3);
        ford.setOut(4);
        ford.stop(4);
        ford.pass(1);
        return ford;
    }

    private static void asks(FordToll ford, String question, String due) {
        int many = Check.ask(ford, question);
        Check.is("22: " + question, Check.answered(ford), due);
        Check.is("22: how many, " + question, many, due.isEmpty() ? 0 : (due.length() + 1) / 2);
    }

    private static void places() {
        Check.is("Terms, Travellers: everywhere", Scenes.places(everywhere()), "-1 -1 0 9 10 10");
        String[] due = {"2 4", "3 5", "0 1", "0 1", "4 5", "2 3", "1 2 3 4"};
        for (int index = 0; index < NAMES.length; index++) {
            asks(everywhere(), NAMES[index], due[index]);
        }
        asks(everywhere(), "near+out", "1");
        asks(everywhere(), "far+out", "4");
        asks(everywhere(), "far+-out", "5");
        asks(everywhere(), "stone+-out", "");
        asks(everywhere(), "near/far/stone", "0 1 2 3 4 5");
    }

    private static void wetEdges() {
        FordToll ford = Scenes.with(0, 0, 0);
        Check.setHeights(ford, 5, 10, 3);
        ford.setOut(1);
        ford.pass(1);
        ford.stop(1);
        ford.pass(8);
        ford.go(1);
        ford.setOut(0);
        ford.pass(1);
        ford.stop(0);
        Check.is("Terms, Boots: 2, 17 and none", Scenes.wets(ford), "2 17 0");
        ford.pass(9);
        Check.is("Terms, Boots: 20, 8 and none", Scenes.wets(ford), "20 8 0");
        asks(ford, "wet=20", "0");
        asks(ford, "wet>20", "");
        asks(ford, "wet<20", "1 2");
        asks(ford, "wet>19", "0");
        asks(ford, "wet<21", "0 1 2");
        asks(ford, "wet=0", "2");
        asks(ford, "wet>0", "0 1");
        asks(ford, "wet<0", "");
        asks(ford, "wet<1", "2");
        asks(ford, "wet<8", "2");
        asks(ford, "wet=8", "1");
        asks(ford, "wet>8", "0");
        asks(ford, "wet<9", "1 2");
        asks(ford, "wet>7", "0 1");
    }

    private static void loadEdges() {
        FordToll ford = Scenes.with(20, 0, 3, 4, 8, 9);
        asks(ford, "load=0", "1");
        asks(ford, "load<0", "");
        asks(ford, "load>0", "0 2 3 4 5");
        asks(ford, "load=20", "0");
        asks(ford, "load>20", "");
        asks(ford, "load<20", "1 2 3 4 5");
        asks(ford, "load>19", "0");
        asks(ford, "load<4", "1 2");
        asks(ford, "load>3+load<9", "3 4");
        asks(ford, "walker", "1 2");
        asks(ford, "carrier", "3 4");
        asks(ford, "donkey", "0 5");
    }

    private static void crossedEdges() {
        FordToll ford = Scenes.with(0, 5, 9);
        ford.setOut(1);
        ford.setOut(2);
        ford.pass(11);
        ford.setOut(2);
        ford.pass(11);
        asks(ford, "crossed=0", "0");
        asks(ford, "crossed<0", "");
        asks(ford, "crossed>0", "1 2");
        asks(ford, "crossed=1", "1");
        asks(ford, "crossed=2", "2");
        asks(ford, "crossed>1", "2");
        asks(ford, "crossed>2", "");
        asks(ford, "crossed<2", "0 1");
        asks(ford, "crossed<3", "0 1 2");
    }

    private static void twoDigits() {
        FordToll ford = Scenes.with(12, 1, 2, 10, 20);
        asks(ford, "load=12", "0");
        asks(ford, "load=1", "1");
        asks(ford, "load=01", "1");
        asks(ford, "load=2", "2");
        asks(ford, "load=02", "2");
        asks(ford, "load=10", "3");
        asks(ford, "load=20", "4");
        asks(ford, "load>9", "0 3 4");
        asks(ford, "load<10", "1 2");
        asks(ford, "load<99", "0 1 2 3 4");
        asks(ford, "load>99", "");
        asks(ford, "load=00", "");
        asks(ford, "wet=00", "0 1 2 3 4");
        asks(ford, "load=21/load=1", "1");
    }

    private static void emptyAndFullHouse() {
        for (String name : NAMES) {
            asks(new FordToll(), name, "");
            asks(new FordToll(), "-" + name, "");
        }
        asks(new FordToll(), "wet=0", "");
        asks(Scenes.fullHouse(), "near", "0 1 2 3 4 5 6 7");
        asks(Scenes.fullHouse(), "-far", "0 1 2 3 4 5 6 7");
        asks(Scenes.fullHouse(), "-near", "");
        asks(Scenes.fullHouse(), "load=20", "7");
        asks(Scenes.fullHouse(), "load=0", "0");
    }

    private static void partsAndSigns() {
        FordToll ford = Scenes.fullHouse();
        asks(ford, "walker/donkey+load>9", "0 1 2 3 7");
        asks(ford, "[walker/donkey]+load>9", "7");
        asks(ford, "load>9+donkey/walker", "0 1 2 3 7");
        asks(ford, "-walker+-donkey", "4 5");
        asks(ford, "-[walker+-donkey]", "4 5 6 7");
        asks(ford, "-walker/load=1", "1 4 5 6 7");
        asks(ford, "--load=1", "1");
        asks(ford, "---load=1", "0 2 3 4 5 6 7");
        asks(ford, "load=1/load=2/load=3", "1 2 3");
        asks(ford, "load>1+load<9+walker", "2 3");
        asks(ford, "load=1+load=2", "");
        asks(ford, "load=1/load=2+load=3/load=4", "1 4");
        asks(ford, "[load=1/load=2]+[load=2/load=3]", "2");
    }

    private static String opened(int signs, int many) {
        StringBuilder text = new StringBuilder();
        for (int index = 0; index < many; index++) {
            text.append((signs >> index & 1) == 0 ? '-' : '[');
        }
        return text.toString();
    }

    private static String closed(int signs, int many) {
        return "]".repeat(Integer.bitCount(signs & (1 << many) - 1));
    }

    private static void fourOpen() {
        for (int many = 0; many <= 4; many++) {
            for (int signs = 0; signs < 1 << many; signs++) {
                int minus = many - Integer.bitCount(signs);
                asks(Scenes.fullHouse(), opened(signs, many) + "load=4" + closed(signs, many),
                    minus % 2 == 0 ? "4" : "0 1 2 3 5 6 7");
            }
        }
    }

    private static void fifthOpen() {
        for (int signs = 0; signs < 32; signs++) {
            malformed(opened(signs, 5) + "far" + closed(signs, 5), 4);
            malformed(opened(signs, 5), 4);
        }
        malformed("far+-----far", 8);
        malformed("far/[[[[far/-far]]]]", 12);
        malformed("[---far+----far]", 11);
        malformed("[[[far/-[far]]]]", 8);
        malformed("------far", 4);
    }

    private static void openAgain() {
        FordToll ford = Scenes.with(0, 20);
        asks(ford, "----walker+[[[[near]]]]", "0");
        asks(ford, "[[[[walker]]]]/[[[[donkey]]]]", "0 1");
        asks(ford, "----walker/----donkey", "0 1");
        asks(ford, "[---walker+---near]", "");
        asks(ford, "[--[walker]/--[donkey]]", "0 1");
        asks(ford, "[[[-walker/-donkey+-far]]]", "0 1");
        asks(ford, "[[near]+-[-far]]", "");
    }

    private static void malformed(String question, int due) {
        FordToll ford = Scenes.with(0, 5, 9);
        Check.fails("22: malformed, " + question, IllegalArgumentException.class, () -> Check.ask(ford, question));
        Check.is("24: " + question, ford.errorPosition(), due);
        Check.is("22: the buffer is empty after " + question, ford.account(17), 0);
        Check.is("28: 16, no answer after " + question, ford.account(16), 0);
    }

    private static String[] words() {
        String[] all = new String[10];
        System.arraycopy(NAMES, 0, all, 0, 7);
        System.arraycopy(MEASURES, 0, all, 7, 3);
        return all;
    }

    private static void wordsLetterByLetter() {
        for (String word : words()) {
            for (int letter = 0; letter < word.length(); letter++) {
                for (char other : new char[] {'z', (char) (word.charAt(letter) - 32), ' ', '-', ']', '1', (char) 0}) {
                    boolean isLater = letter > 0 || other != '-';
                    String wrong = word.substring(0, letter) + other + word.substring(letter + 1);
                    if (isLater) {
                        malformed(wrong, letter);
                        malformed("-" + wrong, letter + 1);
                        malformed("[far/" + wrong, letter + 5);
                    }
                }
            }
        }
        malformed("wa", 2);
        malformed("wat", 2);
        malformed("wel", 2);
        malformed("cro", 3);
        malformed("cra", 2);
        malformed("cao", 2);
        malformed("walkerwalker", 6);
        malformed("Far", 0);
    }

    private static void wordsCutShort() {
        for (String word : words()) {
            for (int length = 0; length < word.length(); length++) {
                malformed(word.substring(0, length), length);
                malformed("far+" + word.substring(0, length), 4 + length);
                malformed("[" + word.substring(0, length), 1 + length);
            }
        }
    }

    private static void signsAndDigits() {
        for (String word : MEASURES) {
            int end = word.length();
            malformed(word, end);
            for (String other : new String[] {"!", "+", "/", "]", "1", "-", " =1", "?1", ":1", ";1"}) {
                malformed(word + other, end);
            }
            for (String sign : new String[] {"<", "=", ">"}) {
                malformed(word + sign, end + 1);
                for (String other : new String[] {"=", "a", "-1", "+", " 1", "/", "[", ":", "/1", "wet"}) {
                    malformed(word + sign + other, end + 1);
                }
                malformed(word + sign + "123", end + 3);
                malformed(word + sign + "000", end + 3);
                malformed(word + sign + "1x", end + 2);
                malformed(word + sign + "1:", end + 2);
                malformed(word + sign + "12[", end + 3);
                for (int digit = 0; digit <= 9; digit++) {
                    asks(new FordToll(), word + sign + digit, "");
                    asks(new FordToll(), word + sign + digit + (9 - digit), "");
                }
            }
        }
        for (String name : NAMES) {
            malformed(name + "=1", name.length());
            malformed(name + "<", name.length());
            malformed(name + "1", name.length());
        }
    }

    private static void afterAPart() {
        for (String word : new String[] {"far", "wet=1", "wet=12", "[far]", "-far"}) {
            int end = word.length();
            for (String other : new String[] {"]", "[", "-", "far", " ", "<1", ".", ",", "*", "0,"}) {
                boolean isDigit = other.equals("0,") && word.equals("wet=1");
                malformed(word + other, isDigit ? end + 1 : end);
            }
            malformed(word + "+", end + 1);
            malformed(word + "/", end + 1);
        }
    }

    private static void beforeAPart() {
        for (String before : new String[] {"", "-", "[", "far+", "far/", "[far+", "-["}) {
            for (String other : new String[] {"", "+", "/", "]", "1", "<1", " far", "(far)", "\\", "^", "."}) {
                malformed(before + other, before.length());
            }
        }
    }

    private static void brackets() {
        malformed("[far", 4);
        malformed("[[far]", 6);
        malformed("[far]]", 5);
        malformed("[]", 1);
        malformed("[far/]", 5);
        malformed("[far)", 4);
        malformed("[far}", 4);
        malformed("far[near]", 3);
        malformed("[far][near]", 5);
        malformed("-[far", 5);
        malformed("[far+near/out", 13);
        malformed("[[[[far]]]", 10);
        malformed("[[[[far]]]]]", 11);
    }

    private static void errorsAtTheEndOfTheBuffer() {
        String full = longest();
        malformed(full.substring(0, 59), 59);
        malformed(full.substring(0, 59) + "x", 59);
        malformed(full.substring(0, 59) + "]", 59);
        malformed(full.substring(0, 57), 57);
        malformed("[" + full.substring(0, 56) + "/ou", 60);
        malformed("[far" + "/far".repeat(14), 60);
        malformed("wet=1" + "/far".repeat(13) + "/we", 60);
        malformed("far" + "/far".repeat(13) + "/wet=", 60);
        malformed("]".repeat(60), 0);
        malformed("[".repeat(60), 4);
        malformed("-".repeat(60), 4);
    }

    private static void errorPositionStays() {
        FordToll ford = Scenes.with(0);
        Check.fails("24: none before", NoSuchElementException.class, ford::errorPosition);
        Check.ask(ford, "near");
        Check.fails("24: none after a good one", NoSuchElementException.class, ford::errorPosition);
        Check.fails("22: malformed", IllegalArgumentException.class, () -> Check.ask(ford, "nearly"));
        Check.is("24: the first", ford.errorPosition(), 4);
        Check.is("24: once more", ford.errorPosition(), 4);
        Check.ask(ford, "near");
        Check.is("24: stays after a good one", ford.errorPosition(), 4);
        Check.fails("22: empty", IllegalArgumentException.class, ford::ask);
        Check.is("24: the latest", ford.errorPosition(), 0);
    }

    private static void answers() {
        FordToll ford = Scenes.fullHouse();
        Check.ask(ford, "near");
        for (int index = 0; index < 8; index++) {
            Check.is("23: in the order of numbers", ford.answer(index), index);
        }
        for (int index : new int[] {-1, 8, Integer.MIN_VALUE, Integer.MAX_VALUE}) {
            Check.fails("23: index " + index, NoSuchElementException.class, () -> ford.answer(index));
        }
        Check.ask(ford, "load=20");
        Check.is("23: the only one", ford.answer(0), 7);
        Check.is("28: 16, one", ford.account(16), 1);
        Check.fails("23: none of the answer before", NoSuchElementException.class, () -> ford.answer(1));
        Check.ask(ford, "far");
        Check.is("28: 16, the empty answer", ford.account(16), 0);
        for (int index : new int[] {-1, 0, 1}) {
            Check.fails("23: of the empty answer " + index, NoSuchElementException.class, () -> ford.answer(index));
        }
    }

    private static void answerStays() {
        FordToll ford = Scenes.fullHouse();
        Check.ask(ford, "load>8");
        Check.fails("22: malformed", IllegalArgumentException.class, () -> Check.ask(ford, "near/"));
        Check.is("22: the answer before stays", Check.answered(ford), "6 7");
        ford.leave(7);
        ford.leave(6);
        ford.leave(0);
        Check.is("Terms, Details: it stays when travellers leave", Check.answered(ford), "6 7");
        Check.is("28: 16, too", ford.account(16), 2);
        Check.is("22: asked anew", Check.ask(ford, "load>8"), 0);
    }

    private static void describe() {
        int[] levels = {4, 9, 10, 11, 38};
        String[] due = {".......... 4", "~~~~~~~~~~ 9", "~~~~~~~~~~ 10", "__________ 11", "__________ 38"};
        for (int index = 0; index < levels.length; index++) {
            FordToll ford = Scenes.atFlood(levels[index]);
            Check.is("26: how many characters", ford.describe(), due[index].length());
            Check.is("26: the line", Check.lineBefore(ford), due[index] + "|");
        }
        FordToll all = Scenes.atFlood(9);
        Check.setHeights(all, 8, 9, 10, 11, 12, 13, 30, 1, 12, 8);
        Check.is("26: each state", Check.line(all), "_~~~..._._ 9");
    }

    private static void describeTravellers() {
        FordToll house = Scenes.with(0, 0, 0, 0, 0, 0, 0, 0);
        for (int traveller = 0; traveller < 8; traveller++) {
            house.setOut(traveller);
            house.pass(1);
        }
        Check.is("26: the full house", Check.line(house), "76543210.. 4");
        house.pass(2);
        Check.is("26: on the last stone", Check.line(house), "..76543210 4");
        house.pass(1);
        Check.is("26: not who is on the bank", Check.line(house), "...7654321 4");
        FordToll together = Scenes.with(0, 0, 0);
        Scenes.setAllOut(together);
        together.pass(1);
        Check.is("26: the lowest of several", Check.line(together), "0......... 4");
        together.stop(0);
        together.pass(1);
        Check.is("26: the lowest of each", Check.line(together), "01........ 4");
        FordToll awash = Scenes.with(0);
        awash.height(0, 4);
        awash.height(1, 3);
        awash.setOut(0);
        awash.pass(1);
        Check.is("26: the number in place of the state", Check.line(awash), "0_........ 4");
    }

    private static void written() {
        FordToll ford = Scenes.atFlood(9);
        for (int index : new int[] {-1, 0, Integer.MIN_VALUE, Integer.MAX_VALUE}) {
            Check.fails("27: before a line was written, " + index, NoSuchElementException.class, () -> ford.written(index));
        }
        ford.describe();
        Check.is("27: the first", ford.written(0), '~');
        Check.is("27: the blank", ford.written(10), ' ');
        Check.is("27: the last", ford.written(11), '9');
        for (int index : new int[] {-1, 12, Integer.MIN_VALUE, Integer.MAX_VALUE}) {
            Check.fails("27: index " + index, NoSuchElementException.class, () -> ford.written(index));
        }
        ford.rain(3);
        ford.pass(1);
        Check.is("27: the line before", Check.lineBefore(ford), "~~~~~~~~~~ 9|");
        ford.describe();
        Check.is("27: in place of it", Check.lineBefore(ford), "~~~~~~~~~~ 10|");
        Check.fails("27: index 13", NoSuchElementException.class, () -> ford.written(13));
        ford.rain(0);
        ford.pass(1);
        ford.describe();
        Check.is("27: nothing is left of a longer one", Check.lineBefore(ford), "~~~~~~~~~~ 8|");
    }
}
