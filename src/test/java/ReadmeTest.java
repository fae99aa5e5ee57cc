import java.io.IOException;
import java.lang.reflect.Method;
import java.nio.file.Files;
import java.nio.file.Path;
import java.util.List;
import java.util.regex.Matcher;
import java.util.regex.Pattern;
import java.util.stream.Stream;

/** README.md: that its calls answer as it says, and that it leaves out nothing. Run from the project's folder. */
public final class ReadmeTest {
    private static final Pattern CALL = Pattern.compile("book\\.(\\w+)\\(([^)]*)\\); +// ([A-Z_]+|-?\\d+): .+");

    public static void main(String[] args) throws Exception {
        String readme = Files.readString(Path.of("README.md"));
        answers(readme);
        packing(readme);
        calls(readme);
        constants(readme);
        tests(readme);
        Check.finish("ReadmeTest");
    }

    // ---- the run of calls

    private static void answers(String readme) throws Exception {
        SyllableBook book = null;
        int asked = 0;
        for (String line : readme.split("\n")) {
            if (line.equals("SyllableBook book = new SyllableBook();")) {
                book = new SyllableBook();
            }
            if (line.startsWith("book.")) {
                Matcher call = CALL.matcher(line);
                Check.isTrue("a call, its answer and what it means: " + line, call.matches() && book != null);
                if (call.matches() && book != null) {
                    Check.due("README.md: " + line, answer(book, call.group(1), call.group(2)), number(call.group(3)));
                    asked++;
                }
            }
        }
        Check.isTrue("README.md shows a run of calls", asked >= 25);
    }

    private static long answer(SyllableBook book, String name, String arguments) throws Exception {
        String[] given = arguments.isEmpty() ? new String[0] : arguments.split(", *");
        for (Method method : SyllableBook.class.getDeclaredMethods()) {
            if (method.getName().equals(name) && method.getParameterCount() == given.length) {
                Object[] values = new Object[given.length];
                for (int i = 0; i < given.length; i++) {
                    long value = number(given[i]);
                    values[i] = method.getParameterTypes()[i] == long.class ? (Object) value : (Object) (int) value;
                }
                return ((Number) method.invoke(book, values)).longValue();
            }
        }
        Check.isTrue("there is a call " + name + "(" + arguments + ")", false);
        return 0;
    }

    /** A number as README.md writes it: 12, 0x61L, 'a' or the name of a constant. */
    private static long number(String text) throws Exception {
        if (text.startsWith("'")) {
            return text.charAt(1);
        }
        if (Character.isLetter(text.charAt(0))) {
            return SyllableBook.class.getField(text).getInt(null);
        }
        return Long.decode(text.replace("L", ""));
    }

    /** The packing shown is the one that all tests use. */
    private static void packing(String readme) throws IOException {
        int from = readme.indexOf("static long packed(String text) {");
        int to = readme.indexOf("```", Math.max(0, from));
        Check.isTrue("README.md shows how to pack a text", from >= 0 && to > from);
        String shown = readme.substring(Math.max(0, from), Math.max(0, to)).replaceAll("\\s+", " ");
        String used = Files.readString(Path.of("src/test/java/Check.java")).replaceAll("\\s+", " ");
        Check.isTrue("it packs as the tests do", used.contains(shown.trim()));
        Check.isTrue("it says what packed(\"abab\") is", readme.contains("put(0x" + Long.toHexString(Check.packed("abab")) + "L)")
                && readme.contains("packed(\"abab\")"));
    }

    // ---- what it names

    private static void calls(String readme) {
        for (Method method : SyllableBook.class.getDeclaredMethods()) {
            if (java.lang.reflect.Modifier.isPublic(method.getModifiers())) {
                Pattern row = Pattern.compile("(?m)^\\|.*`" + method.getName() + "\\(([^)]*)\\)`.*\\|.+\\|$");
                Matcher found = row.matcher(readme);
                Check.isTrue("README.md tells of " + method.getName(), found.find());
                found.reset();
                int given = found.find() ? found.group(1).isEmpty() ? 0 : found.group(1).split(",").length : -1;
                Check.due("arguments of " + method.getName() + " in README.md", given, method.getParameterCount());
            }
        }
    }

    private static void constants(String readme) throws Exception {
        for (String name : List.of("NO_SUCH", "BAD_VALUE", "BAD_TEXT", "TOO_MANY", "NOT_POSSIBLE", "NONE")) {
            Check.isTrue("README.md tells when a call answers " + name,
                    readme.contains("\n| `" + name + "` (" + number(name) + ") | "));
        }
    }

    private static void tests(String readme) throws IOException {
        Check.isTrue("README.md says how the tests are run", readme.contains("## How to run its tests") && readme.contains("`.ci/run`"));
        try (Stream<Path> files = Files.list(Path.of("src/test/java"))) {
            for (Path file : files.toList()) {
                String name = file.getFileName().toString().replace(".java", "");
                boolean told = readme.contains("`" + name + "`") || readme.contains("`" + name + ".java`");
                Check.isTrue("README.md tells of " + file, told);
            }
        }
    }
}
