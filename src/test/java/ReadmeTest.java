import java.io.File;
import java.io.IOException;
import java.lang.reflect.InvocationTargetException;
import java.lang.reflect.Method;
import java.lang.reflect.Modifier;
import java.nio.file.Files;
import java.nio.file.Path;
import java.util.ArrayList;
import java.util.Arrays;
import java.util.HashSet;
import java.util.List;
import java.util.Set;
import java.util.regex.Matcher;
import java.util.regex.Pattern;

/** README.md has each promise in the document's words, what it shows as an example is so, and it names each test. */
public final class ReadmeTest {
    private static final Pattern MADE = Pattern.compile("FordToll ford = new FordToll\\(\\);");
    private static final Pattern TYPED = Pattern.compile("for \\(char sign : \"([^\"]*)\"\\.toCharArray\\(\\)\\) ford\\.type\\(sign\\);");
    private static final Pattern CALLED = Pattern.compile("ford\\.(\\w+)\\(([^()]*|'[()]')\\);  // (.*)");
    private static final Pattern PROMISE = Pattern.compile("## Promise \\d+: (.*)");
    private static final Set<String> SHOWN = new HashSet<>();

    public static void main(String[] args) throws IOException, IllegalAccessException {
        String readme = Files.readString(Path.of("README.md"));
        examples(readme);
        String document = Files.readString(Path.of("../shared/DOC.md"));
        promises(readme, document);
        form(readme, document);
        tests(readme);
        Check.end("ReadmeTest");
    }

    // ---- examples ----

    private static void examples(String readme) throws IllegalAccessException {
        boolean isJava = false;
        FordToll ford = null;
        for (String line : readme.split("\n")) {
            if (line.startsWith("```")) {
                isJava = line.equals("```java");
                ford = null;
            } else if (isJava && MADE.matcher(line).matches()) {
                ford = new FordToll();
            } else if (isJava) {
                example(ford, line);
            }
        }
        for (Method method : FordToll.class.getDeclaredMethods()) {
            if (Modifier.isPublic(method.getModifiers())) {
                Check.is("README.md shows a call of " + method.getName(), SHOWN.contains(method.getName()), true);
            }
        }
    }

    private static void example(FordToll ford, String line) throws IllegalAccessException {
        Matcher typed = TYPED.matcher(line);
        Matcher called = CALLED.matcher(line);
        if (ford != null && typed.matches()) {
            Check.typeAll(ford, typed.group(1));
        } else if (ford != null && called.matches()) {
            SHOWN.add(called.group(1));
            String due = called.group(3).split(": ")[0];
            Check.is("README.md: " + line, answered(ford, called.group(1), called.group(2)), due);
        } else {
            Check.is("README.md: no such example: " + line, false, true);
        }
    }

    private static String answered(FordToll ford, String name, String arguments) throws IllegalAccessException {
        for (Method method : FordToll.class.getMethods()) {
            if (method.getName().equals(name)) {
                try {
                    return told(method.invoke(ford, values(arguments)));
                } catch (InvocationTargetException thrown) {
                    return "throws " + thrown.getCause().getClass().getSimpleName();
                }
            }
        }
        return "no such method";
    }

    private static String told(Object answer) {
        if (answer instanceof Character) {
            return "'" + answer + "'";
        }
        return answer instanceof Float ? answer + "f" : answer.toString();
    }

    private static Object[] values(String arguments) {
        if (arguments.isEmpty()) {
            return new Object[0];
        }
        String[] parts = arguments.split(", ");
        Object[] values = new Object[parts.length];
        for (int index = 0; index < parts.length; index++) {
            values[index] = value(parts[index]);
        }
        return values;
    }

    private static Object value(String text) {
        if (text.startsWith("'")) {
            return text.charAt(1);
        }
        boolean isNumber = text.matches("-?\\d+");
        return isNumber ? (Object) Integer.valueOf(text) : (Object) Boolean.valueOf(text);
    }

    // ---- the document's words ----

    /** By the headings ### of README.md, each method has its own piece. */
    private static void promises(String readme, String document) {
        List<String> due = new ArrayList<>();
        for (String promise : document.split("\n(?=## )")) {
            Matcher heading = PROMISE.matcher(promise.split("\n")[0]);
            if (heading.matches()) {
                due.add(heading.group(1));
                promise(piece(readme, heading.group(1)), heading.group(1), promise);
            }
        }
        List<String> got = new ArrayList<>();
        for (String line : readme.split("\n")) {
            if (line.startsWith("### ")) {
                got.add(line.substring(4));
            }
        }
        Check.is("README.md: a piece for each promise, in their order", got, due);
        Check.is("README.md: 34 promises", due.size(), 34);
    }

    private static void form(String readme, String document) {
        int from = document.indexOf("```text");
        int to = document.indexOf("```", from + 7);
        Check.is("The form of a question is told", from >= 0 && to > from, true);
        Check.is("README.md: the form of a question", readme.contains(document.substring(from, to)), true);
    }

    private static String piece(String readme, String name) {
        int from = readme.indexOf("\n### " + name + "\n");
        if (from < 0) {
            return "";
        }
        String rest = readme.substring(from + 5 + name.length());
        return rest.split("\n(##|```)")[0];
    }

    private static void promise(String piece, String name, String promise) {
        List<String> throwing = new ArrayList<>();
        String[] paragraphs = promise.split("\n\n|\n(?=- `)");
        for (int index = 1; index < paragraphs.length; index++) {
            String words = oneLine(paragraphs[index]).replaceFirst("\\) throws [^`]*`", ")`");
            Check.is("README.md: " + name + ": " + words, oneLine(piece).contains(words), true);
            if (words.startsWith("Throws ")) {
                throwing.add(words.split(" ")[1]);
            }
        }
        List<String> told = new ArrayList<>();
        Matcher thrown = Pattern.compile("- Throws (`\\w+`)").matcher(piece);
        while (thrown.find()) {
            told.add(thrown.group(1));
        }
        Check.is("README.md: what " + name + " throws, in the order of the document", told, throwing);
        if (!name.equals("A new object")) {
            Check.is("README.md: what " + name + " throws, as the class says", told, declared(name));
        }
    }

    private static List<String> declared(String name) {
        List<String> thrown = new ArrayList<>();
        for (Method method : FordToll.class.getMethods()) {
            if (method.getName().equals(name)) {
                Arrays.stream(method.getExceptionTypes()).forEach(type -> thrown.add("`" + type.getSimpleName() + "`"));
            }
        }
        return thrown;
    }

    private static String oneLine(String text) {
        return text.strip().replaceAll("\\s+", " ");
    }

    // ---- tests ----

    private static void tests(String readme) {
        String[] files = new File("src/test/java").list();
        Check.is("README.md: there are tests", files != null && files.length > 10, true);
        for (String file : files == null ? new String[0] : files) {
            String name = file.replace(".java", "");
            Check.is("README.md names " + name, readme.contains("`" + name + "`"), true);
        }
    }
}
