import java.lang.reflect.Field;
import java.lang.reflect.Member;
import java.lang.reflect.Method;
import java.lang.reflect.Modifier;
import java.nio.file.Files;
import java.nio.file.Path;
import java.util.ArrayList;
import java.util.List;
import java.util.Set;
import java.util.TreeSet;
import java.util.regex.Matcher;
import java.util.regex.Pattern;

/** The face and the rules of LANGUAGE.md, as far as a test can see them; run from the project's folder. */
public final class LanguageTest {
    private static final Set<String> FACE = new TreeSet<>();
    private static final Set<String> CONSTANTS = new TreeSet<>();
    private static final int MOST_LINES = 60;
    private static final int MOST_PARAMETERS = 7;
    private static final Set<String> LIBRARY = Set.of("Math.min", "Math.max", "System.arraycopy", "Arrays.fill");
    private static final String FORBIDDEN_WORDS = "throw|throws|try|catch|finally|synchronized|assert|volatile|native"
            + "|System\\.(?!arraycopy)|Thread|Random|Exact|hashCode|toString|->|::|import";

    public static void main(String[] args) throws Exception {
        readFace();
        constants();
        face();
        classesInside();
        text();
        methodLengths();
        room();
        Check.finish("LanguageTest");
    }

    /** The face as the document's code block has it. */
    private static void readFace() throws Exception {
        String document = Files.readString(Path.of("../shared/DOC.md"));
        int from = document.indexOf("```java");
        String block = document.substring(from, document.indexOf("```", from + 3));
        Matcher method = Pattern.compile("public (\\w+ \\w+)\\(([^)]*)\\);").matcher(block);
        while (method.find()) {
            FACE.add(method.group(1) + "(" + method.group(2).replaceAll(" \\w+(?=,|$)", "").replace(" ", "") + ")");
        }
        Matcher constant = Pattern.compile("([A-Z_]+) = -\\d").matcher(block);
        while (constant.find()) {
            CONSTANTS.add(constant.group(1));
        }
        Check.due("methods of the document", FACE.size(), 25);
        Check.due("constants of the document", CONSTANTS.size(), 6);
        Check.isTrue("put is one of them", FACE.contains("int put(long)"));
        Check.isTrue("part is one of them", FACE.contains("int part(int,int,int)"));
        Check.isTrue("product is one of them", FACE.contains("long product(int,int)"));
    }

    private static void constants() {
        Check.due("NO_SUCH", SyllableBook.NO_SUCH, -1);
        Check.due("BAD_VALUE", SyllableBook.BAD_VALUE, -2);
        Check.due("BAD_TEXT", SyllableBook.BAD_TEXT, -3);
        Check.due("TOO_MANY", SyllableBook.TOO_MANY, -4);
        Check.due("NOT_POSSIBLE", SyllableBook.NOT_POSSIBLE, -5);
        Check.due("NONE", SyllableBook.NONE, -6);
    }

    private static String signature(Method method) {
        List<String> types = new ArrayList<>();
        for (Class<?> type : method.getParameterTypes()) {
            types.add(type.getSimpleName());
        }
        return method.getReturnType().getSimpleName() + " " + method.getName() + "(" + String.join(",", types) + ")";
    }

    private static boolean isPrivate(Member member) {
        return Modifier.isPrivate(member.getModifiers()) || member.isSynthetic();
    }

    private static void face() {
        Set<String> open = new TreeSet<>();
        Set<String> hidden = new TreeSet<>();
        for (Method method : SyllableBook.class.getDeclaredMethods()) {
            (isPrivate(method) ? hidden : open).add(isPrivate(method) ? method.getName() : signature(method));
            Check.isTrue(method + " is public or private", isPrivate(method) || Modifier.isPublic(method.getModifiers()));
        }
        Check.same("the public methods", open.toString(), FACE.toString());
        for (String signature : FACE) {
            Check.isTrue("no private method is called as " + signature, !hidden.contains(nameIn(signature)));
        }
        for (Field field : SyllableBook.class.getDeclaredFields()) {
            Check.isTrue(field + " is private or a constant of the document",
                    isPrivate(field) || CONSTANTS.contains(field.getName()));
            Check.isTrue(field + " is final", Modifier.isFinal(field.getModifiers()));
            boolean isOpen = Modifier.isPublic(field.getModifiers()) && field.getType() == int.class;
            Check.isTrue(field + " is an open constant, if the document has it", isOpen == CONSTANTS.contains(field.getName()));
        }
        Check.isTrue("public final class", Modifier.isFinal(SyllableBook.class.getModifiers()));
        Check.due("constructors", SyllableBook.class.getConstructors().length, 1);
        Check.due("constructors, hidden ones too", SyllableBook.class.getDeclaredConstructors().length, 1);
        Check.due("its parameters", SyllableBook.class.getConstructors()[0].getParameterCount(), 0);
        Check.isTrue("the class is public", Modifier.isPublic(SyllableBook.class.getModifiers()));
        Check.isTrue("it stands in no package", SyllableBook.class.getPackageName().isEmpty());
    }

    private static String nameIn(String signature) {
        return signature.substring(signature.indexOf(' ') + 1, signature.indexOf('('));
    }

    private static void classesInside() {
        Class<?>[] inside = SyllableBook.class.getDeclaredClasses();
        noStaticState(SyllableBook.class);
        Check.isTrue("at most some twelve classes", inside.length < 12);
        for (Class<?> one : inside) {
            noStaticState(one);
            Check.isTrue(one + " is static", Modifier.isStatic(one.getModifiers()));
            Check.isTrue(one + " is not public or protected",
                    (one.getModifiers() & (Modifier.PUBLIC | Modifier.PROTECTED)) == 0);
            Check.isTrue(one + " has at most some twenty fields", one.getDeclaredFields().length <= 20);
            for (Method method : one.getDeclaredMethods()) {
                boolean named = FACE.stream().anyMatch(signature -> nameIn(signature).equals(method.getName()));
                Check.isTrue(method + " is not called as a public one", !named);
            }
        }
    }

    /** No static state: constants of numbers, truth values or texts alone. */
    private static void noStaticState(Class<?> one) {
        for (Field field : one.getDeclaredFields()) {
            if (Modifier.isStatic(field.getModifiers()) && !field.isSynthetic()) {
                Check.isTrue(field + " is a constant", Modifier.isFinal(field.getModifiers())
                        && (field.getType().isPrimitive() || field.getType() == String.class));
            }
        }
        for (Method method : one.getDeclaredMethods()) {
            Check.isTrue(method + " has not too many parameters", method.getParameterCount() <= MOST_PARAMETERS);
        }
    }

    private static void methodLengths() throws Exception {
        int from = 0;
        int at = 0;
        String name = "";
        for (String line : Files.readAllLines(Path.of("src/main/java/SyllableBook.java"))) {
            at++;
            if (line.matches("( {4}| {8})(\\w+ )*\\w+(\\[\\])?( \\w+)?\\(.*\\) \\{")) {
                from = at;
                name = line.trim();
            }
            if (line.matches("( {4}| {8})\\}") && from > 0) {
                Check.isTrue(name + " has at most some " + MOST_LINES + " lines", at - from < MOST_LINES);
                from = 0;
            }
        }
    }

    private static void text() throws Exception {
        String text = Files.readString(Path.of("src/main/java/SyllableBook.java"));
        String code = text.replaceAll("//[^\n]*", "").replaceAll("(?s)/\\*.*?\\*/", "")
                .replace("import java.util.Arrays;", "");
        Matcher found = Pattern.compile("(?<!\\w)(" + FORBIDDEN_WORDS + ")").matcher(code);
        while (found.find()) {
            Check.isTrue("no '" + found.group() + "' in the class", false);
        }
        Matcher library = Pattern.compile("\\b(?:Math|System|Arrays|Integer|Long|String|StringBuilder|List)\\.\\w+").matcher(code);
        while (library.find()) {
            String used = library.group();
            Check.isTrue(used + " is of the library that may be used", LIBRARY.contains(used));
        }
        Check.isTrue("signs 1 to 127", text.chars().allMatch(sign -> sign > 0 && sign < 128));
        Check.isTrue("no package line", !code.contains("package "));
    }

    /** All calls of a run share one room: only the constructor makes anything. */
    private static void room() {
        var threads = (com.sun.management.ThreadMXBean) java.lang.management.ManagementFactory.getThreadMXBean();
        if (!threads.isThreadAllocatedMemorySupported()) {
            return;
        }
        SyllableBook warm = new SyllableBook();
        manyCalls(warm);
        SyllableBook book = new SyllableBook();
        long before = threads.getCurrentThreadAllocatedBytes();
        manyCalls(book);
        long made = threads.getCurrentThreadAllocatedBytes() - before;
        Check.isTrue("calls make nothing, but made " + made + " bytes", made < 10000);
    }

    private static void manyCalls(SyllableBook book) {
        for (int round = 0; round < 15; round++) {
            book.put(0x616263616263L + round % 3);
            book.word(1 + round);
            book.grow();
            book.put(0x6161L + round % 5);
            book.costWith(3);
            book.piece(3);
            book.tune();
            book.least();
            book.save(round % 2);
            book.shrink(8);
            book.undo();
            book.restore(round % 2);
            for (int what = 0; what < 9; what++) {
                book.ofPiece(0, what);
                book.ofWord(0, what);
                book.count(what);
            }
            book.share(0, 0);
            book.product(0, 0);
            book.part(0, 0, 0);
            book.growing(0);
        }
    }
}
