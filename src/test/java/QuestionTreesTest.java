import java.util.function.Predicate;

/**
 * Promise 22 by a second way: questions are made as trees, written as text and asked; who is due is told by going down the tree
 * for each traveller alone, with the numbers that travellerOf tells.
 */
public final class QuestionTreesTest {
    private static final String[] NAMES = {"walker", "carrier", "donkey", "near", "far", "stone", "out"};
    private static final String[] MEASURES = {"wet", "load", "crossed"};
    private static final int[] MEASURED = {2, 1, 7};
    private static final char[] SIGNS = {'<', '=', '>'};
    private static long row = 22;

    /** A node of a question: how it is written, and whether who has these numbers fulfils it. */
    interface Node {
        String written();

        boolean isFulfilledBy(int[] numbers);
    }

    public static void main(String[] args) {
        int deep = 0;
        int some = 0;
        int asked = 0;
        while (asked < 6000) {
            Node node = question(0);
            String text = node.written();
            if (text.length() <= 60) {
                asked++;
                deep += text.contains("[") && text.contains("/") && text.contains("+") ? 1 : 0;
                some += isAsked(node, text) ? 1 : 0;
            }
        }
        Check.is("22: many questions have brackets, + and /: " + deep, deep > 300, true);
        Check.is("22: some but not all fulfil many questions: " + some, some > 2000, true);
        Check.end("QuestionTreesTest");
    }

    private static int below(int bound) {
        row = row * 6364136223846793005L + 1442695040888963407L;
        return (int) ((row >>> 33) % bound);
    }

    /** Eight of all kinds, on both banks and on stones, some wet, some out, one stopped, some of whom crossed. */
    private static FordToll busy() {
        FordToll ford = Scenes.with(0, 2, 5, 8, 9, 20, 3, 4);
        for (int traveller = 0; traveller < 5; traveller++) {
            ford.setOut(traveller);
        }
        ford.pass(11);
        ford.height(5, 5);
        ford.height(6, 6);
        ford.setOut(0);
        ford.setOut(5);
        ford.pass(4);
        ford.setOut(1);
        ford.setOut(6);
        ford.pass(1);
        ford.stop(1);
        ford.setOut(2);
        ford.setOut(4);
        ford.pass(1 + below(6));
        return ford;
    }

    private static boolean isAsked(Node node, String text) {
        FordToll ford = busy();
        StringBuilder due = new StringBuilder();
        int many = 0;
        for (int traveller = 0; traveller < 8; traveller++) {
            int[] numbers = new int[9];
            for (int what = 0; what < 9; what++) {
                numbers[what] = ford.travellerOf(traveller, what);
            }
            if (node.isFulfilledBy(numbers)) {
                due.append(many == 0 ? "" : " ").append(traveller);
                many++;
            }
        }
        Check.is("22: how many, " + text, Check.ask(ford, text), many);
        Check.is("22: who, " + text, Check.answered(ford), due.toString());
        return many > 0 && many < 8;
    }

    private static Node question(int open) {
        Node left = part(open);
        return below(3) == 0 ? joined(left, '/', question(open)) : left;
    }

    private static Node part(int open) {
        Node left = one(open);
        return below(3) == 0 ? joined(left, '+', part(open)) : left;
    }

    private static Node one(int open) {
        int kind = open < 4 ? below(6) : 5;
        if (kind <= 1) {
            return not(one(open + 1));
        }
        if (kind <= 3) {
            return bracketed(question(open + 1));
        }
        return below(2) == 0 ? name(below(NAMES.length)) : measure(below(3), SIGNS[below(3)]);
    }

    private static Node made(String text, Predicate<int[]> rule) {
        return new Node() {
            @Override
            public String written() {
                return text;
            }

            @Override
            public boolean isFulfilledBy(int[] numbers) {
                return rule.test(numbers);
            }
        };
    }

    private static Node joined(Node left, char sign, Node right) {
        return made(left.written() + sign + right.written(), numbers -> sign == '+'
            ? left.isFulfilledBy(numbers) && right.isFulfilledBy(numbers)
            : left.isFulfilledBy(numbers) || right.isFulfilledBy(numbers));
    }

    private static Node not(Node inside) {
        return made("-" + inside.written(), numbers -> !inside.isFulfilledBy(numbers));
    }

    private static Node bracketed(Node inside) {
        return made("[" + inside.written() + "]", inside::isFulfilledBy);
    }

    private static Node name(int which) {
        return made(NAMES[which], numbers -> {
            boolean isOnStone = numbers[3] >= 0 && numbers[3] <= 9;
            boolean[] so = {numbers[0] == 0, numbers[0] == 1, numbers[0] == 2, numbers[3] == -1, numbers[3] == 10, isOnStone,
                numbers[4] == 1};
            return so[which];
        });
    }

    private static Node measure(int which, char sign) {
        int number = which == 2 ? below(3) : below(12);
        String digits = number < 10 && below(3) == 0 ? "0" + number : String.valueOf(number);
        return made(MEASURES[which] + sign + digits, numbers -> {
            int has = numbers[MEASURED[which]];
            return sign == '<' ? has < number : sign == '>' ? has > number : has == number;
        });
    }
}
