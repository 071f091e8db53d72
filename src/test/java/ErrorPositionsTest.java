import java.util.LinkedHashSet;
import java.util.Set;
import java.util.regex.Matcher;
import java.util.regex.Pattern;

/**
 * Promises 22 and 24 by a second way: a text is looked at as a question by folding it up, and the error position is found by
 * trying which beginnings of the text can be completed to a question.
 */
public final class ErrorPositionsTest {
    private static final String[] WORDS = {"walker", "carrier", "donkey", "near", "far", "stone", "out", "wet", "load", "crossed"};
    private static final String[] BITS = {"walker", "carrier", "donkey", "near", "far", "stone", "out", "wet<5", "load>12", "crossed=0",
        "-", "-", "-", "[", "[", "[", "]", "]", "]", "+", "+", "/", "/", "wet", "<1", "9", "w", "o", "cr", "x", " ", "-[", "]+", "]/"};
    private static final Pattern ATOM =
        Pattern.compile("walker|carrier|donkey|near|far|stone|out|(wet|load|crossed)[<=>][0-9][0-9]?");
    private static final Pattern MINUS = Pattern.compile("-([A-Z])");
    private static final Pattern BRACKETS = Pattern.compile("\\[([A-Z]([+/][A-Z])*)\\]");
    private static final Pattern WHOLE = Pattern.compile("[A-Z]([+/][A-Z])*");
    private static final Set<String> COMPLETIONS = completions();
    private static long row = 20;

    public static void main(String[] args) {
        int good = 0;
        for (int text = 0; text < 4000; text++) {
            good += look(madeUp(), new FordToll()) ? 1 : 0;
        }
        Check.is("22: some are questions, " + good, good > 200 && good < 3800, true);
        Check.end("ErrorPositionsTest");
    }

    private static int below(int bound) {
        row = row * 6364136223846793005L + 1442695040888963407L;
        return (int) ((row >>> 33) % bound);
    }

    /** A question mostly, of which now and then a character is changed, dropped or put in. */
    private static String madeUp() {
        StringBuilder text = new StringBuilder();
        if (below(3) == 0) {
            for (int left = 1 + below(6); left > 0; left--) {
                text.append(BITS[below(BITS.length)]);
            }
        } else {
            grow(text, 0);
            if (below(2) == 0 && text.length() > 0) {
                int at = below(text.length());
                String bit = BITS[below(BITS.length)];
                int kind = below(3);
                text.replace(at, kind == 0 ? at : at + 1, kind == 1 ? "" : bit.substring(0, 1));
            }
        }
        text.setLength(Math.min(text.length(), 60));
        return text.toString();
    }

    private static void grow(StringBuilder text, int open) {
        int kind = below(8);
        if (kind < 2 && open < 5) {
            text.append('-');
            grow(text, open + 1);
        } else if (kind < 4 && open < 5) {
            text.append('[');
            grow(text, open + 1);
            text.append(']');
        } else {
            text.append(BITS[below(10)]);
        }
        if (below(3) == 0) {
            text.append(below(2) == 0 ? '+' : '/');
            grow(text, open);
        }
    }

    private static boolean look(String text, FordToll ford) {
        boolean due = isQuestion(text);
        boolean got = true;
        Check.typeAll(ford, text);
        try {
            ford.ask();
        } catch (IllegalArgumentException malformed) {
            got = false;
        }
        Check.is("22: a question: " + text, got, due);
        if (!due) {
            Check.is("24: error position: " + text, ford.errorPosition(), errorPosition(text));
        }
        return due;
    }

    private static int errorPosition(String text) {
        for (int length = 1; length <= text.length(); length++) {
            if (!canGoOn(text.substring(0, length))) {
                return length - 1;
            }
        }
        return text.length();
    }

    private static boolean canGoOn(String beginning) {
        for (String completion : COMPLETIONS) {
            if (isQuestion(beginning + completion)) {
                return true;
            }
        }
        return false;
    }

    private static Set<String> completions() {
        Set<String> ends = new LinkedHashSet<>();
        ends.add("");
        ends.add("0");
        ends.add("<0");
        ends.add("far");
        for (String word : WORDS) {
            for (int from = 1; from < word.length(); from++) {
                ends.add(word.substring(from));
                ends.add(word.substring(from) + "<0");
            }
        }
        Set<String> all = new LinkedHashSet<>();
        for (String end : ends) {
            for (int open = 0; open <= 4; open++) {
                all.add(end + "]".repeat(open));
            }
        }
        return all;
    }

    /** A part is folded into a letter: A for a word, and a letter more for each sign - and bracket round the deepest word in it. */
    private static boolean isQuestion(String text) {
        if (!text.chars().allMatch(sign -> sign < 'A' || sign > 'Z')) {
            return false;
        }
        String folded = ATOM.matcher(text).replaceAll("A");
        for (int turn = 0; turn < 60; turn++) {
            String once = fold(fold(folded, MINUS), BRACKETS);
            if (once.equals(folded)) {
                break;
            }
            folded = once;
        }
        return WHOLE.matcher(folded).matches() && deepest(folded) <= 'A' + 4;
    }

    private static String fold(String text, Pattern part) {
        Matcher found = part.matcher(text);
        StringBuilder folded = new StringBuilder();
        while (found.find()) {
            found.appendReplacement(folded, String.valueOf((char) (deepest(found.group(1)) + 1)));
        }
        return found.appendTail(folded).toString();
    }

    private static char deepest(String text) {
        char deepest = 'A';
        for (int index = 0; index < text.length(); index++) {
            char sign = text.charAt(index);
            deepest = sign >= 'A' && sign <= 'Z' && sign > deepest ? sign : deepest;
        }
        return deepest;
    }
}
