import java.util.NoSuchElementException;
import java.util.function.Function;
import java.util.function.Supplier;

/** What the tests share: calls with the answer or the exception that is due, and a count of the wrong ones. */
final class Check {
    interface Call {
        Object run();
    }

    private static int wrong = 0;
    private static int looked = 0;

    private Check() {
    }

    static void is(String what, Object got, Object due) {
        looked++;
        if (!due.equals(got)) {
            wrong++;
            System.out.println(what + ": answered " + got + ", due is " + due);
        }
    }

    /** The exception's class is due exactly, not one below it. */
    static void fails(String what, Class<? extends RuntimeException> due, Call call) {
        looked++;
        String got;
        try {
            got = "answered " + call.run();
        } catch (RuntimeException thrown) {
            if (thrown.getClass() == due) {
                return;
            }
            got = "threw " + thrown;
        }
        wrong++;
        System.out.println(what + ": " + got + ", due is " + due.getName());
    }

    /** A refusal, with its reason and its detail. */
    static void refused(String what, FordToll ford, int reason, int detail, Call call) {
        fails(what, UnsupportedOperationException.class, call);
        is(what + ", reason", ford.refusal(false), reason);
        is(what + ", detail", ford.refusal(true), detail);
    }

    /** The call throws that, and all is as before; two objects are made, so that each stays below 512 calls. */
    static void failsAndKeeps(String what, Supplier<FordToll> made, Class<? extends RuntimeException> due,
            Function<FordToll, Object> call) {
        FordToll ford = made.get();
        fails(what, due, () -> call.apply(ford));
        FordToll untouched = made.get();
        is(what + ", all is as before", all(ford), all(untouched));
        is(what + ", the reason is as before", told(ford), told(untouched));
    }

    /** The call is refused for that reason, and all but the reason is as before. */
    static void refusedAndKeeps(String what, Supplier<FordToll> made, int reason, int detail, Function<FordToll, Object> call) {
        FordToll ford = made.get();
        refused(what, ford, reason, detail, () -> call.apply(ford));
        is(what + ", all is as before", all(ford), all(made.get()));
    }

    static void end(String test) {
        System.out.println(test + ": " + looked + " looked at, " + wrong + " wrong");
        if (wrong != 0) {
            System.exit(1);
        }
    }

    static void setHeights(FordToll ford, int... heights) {
        for (int stone = 0; stone < heights.length; stone++) {
            ford.height(stone, heights[stone]);
        }
    }

    static void typeAll(FordToll ford, String text) {
        for (int index = 0; index < text.length(); index++) {
            ford.type(text.charAt(index));
        }
    }

    static int ask(FordToll ford, String text) {
        typeAll(ford, text);
        return ford.ask();
    }

    /** The latest answer, as text, as in "0 2 5". */
    static String answered(FordToll ford) {
        StringBuilder text = new StringBuilder();
        for (int index = 0; index < ford.account(16); index++) {
            text.append(index == 0 ? "" : " ").append(ford.answer(index));
        }
        return text.toString();
    }

    static String line(FordToll ford) {
        StringBuilder text = new StringBuilder();
        int length = ford.describe();
        for (int index = 0; index < length; index++) {
            text.append(ford.written(index));
        }
        return text.toString();
    }

    /** All that calls can tell of what changes can change; nothing in it is changed by asking, but the line. */
    static String state(FordToll ford) {
        StringBuilder text = new StringBuilder();
        for (int what = 0; what <= 15; what++) {
            text.append(ford.account(what)).append(' ');
        }
        for (int stone = 0; stone < 10; stone++) {
            for (int what = 0; what <= 2; what++) {
                text.append(ford.stoneOf(stone, what)).append(' ');
            }
        }
        for (int traveller = 0; traveller < ford.account(3); traveller++) {
            for (int what = 0; what <= 8; what++) {
                text.append(ford.travellerOf(traveller, what)).append(' ');
            }
        }
        return text.append(ford.lettersAgain()).append(' ').append(ford.under()).toString();
    }

    /** All that calls can tell, but for the latest refusal and the snapshot, in some 160 calls. */
    static String all(FordToll ford) {
        StringBuilder text = new StringBuilder(state(ford));
        for (int what = 16; what <= 18; what++) {
            text.append(' ').append(ford.account(what));
        }
        text.append(" answer ").append(answered(ford)).append(" error ");
        try {
            text.append(ford.errorPosition());
        } catch (NoSuchElementException none) {
            text.append("none");
        }
        return text.append(" line ").append(lineBefore(ford)).toString();
    }

    /** The line that was written, without writing it again. */
    static String lineBefore(FordToll ford) {
        StringBuilder text = new StringBuilder();
        try {
            for (int index = 0; index < 20; index++) {
                text.append(ford.written(index));
            }
        } catch (NoSuchElementException end) {
            text.append('|');
        }
        return text.toString();
    }

    /** The latest refusal, as in "2 -1", or "none". */
    static String told(FordToll ford) {
        try {
            return ford.refusal(false) + " " + ford.refusal(true);
        } catch (NoSuchElementException none) {
            return "none";
        }
    }
}
