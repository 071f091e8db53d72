import java.util.NoSuchElementException;

/** Promises 21 to 27: questions, and the line. */
public final class QuestionsTest {
    public static void main(String[] args) {
        type();
        words();
        comparisons();
        trees();
        answers();
        errors();
        depth();
        longest();
        refusals();
        describe();
        Check.end("QuestionsTest");
    }

    /** 0 a walker on the far bank, 1 a carrier on stone 1, 2 a donkey that waits, 3 a wet walker, 4 a donkey. */
    private static FordToll busy() {
        FordToll ford = new FordToll();
        for (int load : new int[] {2, 6, 9, 0, 15}) {
            ford.traveller(load);
        }
        ford.setOut(0);
        ford.pass(11);
        ford.height(0, 5);
        ford.setOut(3);
        ford.pass(1);
        ford.setOut(1);
        ford.setOut(2);
        ford.stop(3);
        ford.pass(2);
        return ford;
    }

    private static void type() {
        FordToll ford = new FordToll();
        Check.is("21: first", ford.type('w'), 1);
        Check.is("21: any character", ford.type((char) 65535), 2);
        for (int length = 3; length <= 60; length++) {
            Check.is("21: length", ford.type((char) 0), length);
        }
        Check.fails("21: full", IllegalStateException.class, () -> ford.type('x'));
        Check.is("21: 60 characters", ford.account(17), 60);
        Check.fails("22: malformed", IllegalArgumentException.class, ford::ask);
        Check.is("22: empty", ford.account(17), 0);
        Check.is("24: at", ford.errorPosition(), 1);
        Check.is("21: again", ford.type('w'), 1);
    }

    private static void asks(FordToll ford, String question, String due) {
        int many = Check.ask(ford, question);
        Check.is("22: " + question, Check.answered(ford), due);
        Check.is("22: how many, " + question, many, due.isEmpty() ? 0 : (due.length() + 1) / 2);
        Check.is("22: the buffer is empty", ford.account(17), 0);
    }

    private static void words() {
        FordToll ford = busy();
        asks(ford, "walker", "0 3");
        asks(ford, "carrier", "1");
        asks(ford, "donkey", "2 4");
        asks(ford, "near", "2 4");
        asks(ford, "far", "0");
        asks(ford, "stone", "1 3");
        asks(ford, "out", "1 2 3");
        asks(new FordToll(), "near/far/stone", "");
        asks(new FordToll(), "-near", "");
    }

    private static void comparisons() {
        FordToll ford = busy();
        Check.is("22: wet of 3", ford.travellerOf(3, 2), 6);
        Check.is("22: wet of 1", ford.travellerOf(1, 2), 1);
        asks(ford, "wet=6", "3");
        asks(ford, "wet=06", "3");
        asks(ford, "wet<6", "0 1 2 4");
        asks(ford, "wet>0", "1 3");
        asks(ford, "wet>6", "");
        asks(ford, "load=15", "4");
        asks(ford, "load<7", "0 1 3");
        asks(ford, "load>8", "2 4");
        asks(ford, "load<99", "0 1 2 3 4");
        asks(ford, "crossed=1", "0");
        asks(ford, "crossed<1", "1 2 3 4");
        asks(ford, "crossed>0", "0");
    }

    private static void trees() {
        FordToll ford = busy();
        asks(ford, "-walker", "1 2 4");
        asks(ford, "--walker", "0 3");
        asks(ford, "walker+out", "3");
        asks(ford, "walker/out", "0 1 2 3");
        asks(ford, "far/donkey+near", "0 2 4");
        asks(ford, "donkey+near/far", "0 2 4");
        asks(ford, "[far/donkey]+out", "2");
        asks(ford, "-walker+out", "1 2");
        asks(ford, "-[walker+out]", "0 1 2 4");
        asks(ford, "-[walker/out]", "4");
        asks(ford, "-[-far/stone+wet>3]+walker", "0");
        asks(ford, "[[[[walker]]]]/[-[-carrier]]", "0 1 3");
        asks(ford, "out+out+stone/far/far", "0 1 3");
    }

    private static void answers() {
        FordToll ford = busy();
        Check.fails("23: before", NoSuchElementException.class, () -> ford.answer(0));
        Check.ask(ford, "out");
        Check.is("23: 0", ford.answer(0), 1);
        Check.is("23: 2", ford.answer(2), 3);
        Check.fails("23: 3", NoSuchElementException.class, () -> ford.answer(3));
        Check.fails("23: -1", NoSuchElementException.class, () -> ford.answer(-1));
        Check.fails("22: malformed", IllegalArgumentException.class, () -> Check.ask(ford, "in"));
        Check.is("22: the answer before stays", Check.answered(ford), "1 2 3");
        Check.ask(ford, "wet>20");
        Check.fails("23: none", NoSuchElementException.class, () -> ford.answer(0));
    }

    private static void malformed(String question, int due) {
        FordToll ford = busy();
        Check.fails("22: " + question, IllegalArgumentException.class, () -> Check.ask(ford, question));
        Check.is("24: " + question, ford.errorPosition(), due);
        Check.is("22: the buffer is empty", ford.account(17), 0);
    }

    private static void errors() {
        FordToll ford = new FordToll();
        Check.fails("24: none", NoSuchElementException.class, ford::errorPosition);
        Check.fails("22: empty", IllegalArgumentException.class, ford::ask);
        Check.is("24: empty", ford.errorPosition(), 0);
        Check.fails("22: again", IllegalArgumentException.class, () -> Check.ask(ford, "far+"));
        Check.ask(ford, "far");
        Check.is("24: stays", ford.errorPosition(), 4);
        String[] questions = {"x", "w", "wa", "wx", "wex", "walkerx", "caz", "crz", "car", "wet", "wet+", "wet<", "wet<a",
            "wet<1a", "wet<100", "wet==1", "wet<=1", "far far", " far", "far+", "far/", "far+/", "far]", "[far", "[far]]", "[]",
            "[far", "[far/", "-", "-]", "far-", "far[", "[far+stone)", "FAR", "crossed", "crossed>12+load", "load>5stone",
            "near/wet<5+outer", "[near+walke]", "wet<5/loaf=3", "stonewall", "-+far", "nearfar"};
        int[] positions = {0, 1, 2, 1, 2, 6, 2, 2, 3, 3, 3, 4, 4,
            5, 6, 4, 4, 3, 0, 4, 4, 4, 3, 4, 5, 1,
            4, 5, 1, 1, 3, 3, 10, 0, 7, 15, 6,
            14, 11, 9, 5, 1, 4};
        for (int index = 0; index < questions.length; index++) {
            malformed(questions[index], positions[index]);
        }
    }

    private static void depth() {
        FordToll ford = busy();
        asks(ford, "----far", "0");
        asks(ford, "-[-[far]]", "0");
        asks(ford, "[[[[far]]]]", "0");
        asks(ford, "----far+----far/[[[[far]]]]", "0");
        malformed("-----far", 4);
        malformed("[[[[[far]]]]]", 4);
        malformed("-[-[-far]]", 4);
        malformed("[[[[far+-near]]]]", 8);
        malformed("----[far]", 4);
        malformed("[[[[far]]+-----far]]", 12);
    }

    private static void longest() {
        StringBuilder text = new StringBuilder("[out]");
        while (text.length() < 57) {
            text.append("+out");
        }
        FordToll ford = busy();
        asks(ford, text.toString(), "1 2 3");
        text.append("+o");
        malformed(text.toString(), 59);
        text.append("u");
        Check.is("22: as long as can be", text.length(), 60);
        malformed(text.toString(), 60);
    }

    private static void refusals() {
        FordToll ford = new FordToll();
        Check.fails("25: none", NoSuchElementException.class, () -> ford.refusal(false));
        Check.fails("25: none, detail", NoSuchElementException.class, () -> ford.refusal(true));
        ford.traveller(0);
        Check.refused("25: first", ford, 3, -1, () -> ford.stop(0));
        ford.setOut(0);
        Check.is("25: stays", ford.refusal(false), 3);
        Check.refused("25: latest", ford, 7, 0, () -> ford.go(0));
        Check.fails("25: not refused", IllegalArgumentException.class, () -> ford.pass(0));
        Check.fails("25: not refused, too", IndexOutOfBoundsException.class, () -> ford.leave(1));
        ford.undo();
        ford.save();
        ford.restore();
        Check.is("25: neither undone nor saved", ford.refusal(false), 7);
    }

    private static void describe() {
        FordToll ford = busy();
        Check.fails("27: none", NoSuchElementException.class, () -> ford.written(0));
        ford.height(2, 3);
        ford.height(3, 4);
        Check.is("26: length", ford.describe(), 12);
        Check.is("26: line", Check.line(ford), "31_~...... 4");
        ford.rain(5);
        ford.pass(2);
        Check.is("27: the line stays", ford.written(11), '4');
        Check.fails("27: 12", NoSuchElementException.class, () -> ford.written(12));
        Check.is("26: longer", ford.describe(), 13);
        Check.is("26: longer line", Check.line(ford), "_1__~~~~~~ 10");
        Check.fails("27: 13", NoSuchElementException.class, () -> ford.written(13));
        Check.fails("27: -1", NoSuchElementException.class, () -> ford.written(-1));
        ford.undo();
        Check.is("27: the line is not undone", ford.written(12), '0');
        Check.is("26: shorter", ford.describe(), 12);
        Check.fails("27: shorter", NoSuchElementException.class, () -> ford.written(12));
        severalOnAStone();
    }

    private static void severalOnAStone() {
        FordToll ford = new FordToll();
        for (int index = 0; index < 8; index++) {
            ford.traveller(0);
        }
        ford.setOut(7);
        ford.pass(1);
        ford.setOut(5);
        ford.setOut(6);
        ford.pass(1);
        Check.is("26: the lowest", Check.line(ford), "57........ 4");
    }
}
