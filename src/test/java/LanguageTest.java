import java.lang.reflect.Field;
import java.lang.reflect.Member;
import java.lang.reflect.Method;
import java.lang.reflect.Modifier;
import java.nio.file.Files;
import java.nio.file.Path;
import java.util.ArrayList;
import java.util.List;
import java.util.Set;
import java.util.TreeSet;
import java.util.regex.Matcher;
import java.util.regex.Pattern;

/** The face and the rules of LANGUAGE.md, as far as a test can see them; run from the project's folder. */
public final class LanguageTest {
    private static final Set<String> FACE = new TreeSet<>(List.of(
            "int piece(int)", "int weigh(int,int)", "int drop(int)", "int word(int)", "int recount(int,int)",
            "int forget(int)", "int grow()", "int tune()", "int shrink(int)", "int ofPiece(int,int)",
            "int ofWord(int,int)", "int letter(int,int)", "long product(int,int)", "int part(int,int,int)",
            "int share(int,int)", "int count(int)", "int costWith(int)", "int growing(int)", "int least()",
            "int put(long)", "int wipe()", "int fault()", "int undo()", "int save(int)", "int restore(int)"));
    private static final Set<String> CONSTANTS = Set.of(
            "NO_SUCH", "BAD_VALUE", "BAD_TEXT", "TOO_MANY", "NOT_POSSIBLE", "NONE");
    private static final Set<String> LIBRARY = Set.of("Math.min", "Math.max", "System.arraycopy", "Arrays.fill");
    private static final String FORBIDDEN_WORDS = "throw|throws|try|catch|finally|synchronized|assert|volatile|native"
            + "|System\\.(?!arraycopy)|Thread|Random|Exact|hashCode|toString|->|::|import";

    public static void main(String[] args) throws Exception {
        constants();
        face();
        classesInside();
        text();
        room();
        Check.finish("LanguageTest");
    }

    private static void constants() {
        Check.due("NO_SUCH", SyllableBook.NO_SUCH, -1);
        Check.due("BAD_VALUE", SyllableBook.BAD_VALUE, -2);
        Check.due("BAD_TEXT", SyllableBook.BAD_TEXT, -3);
        Check.due("TOO_MANY", SyllableBook.TOO_MANY, -4);
        Check.due("NOT_POSSIBLE", SyllableBook.NOT_POSSIBLE, -5);
        Check.due("NONE", SyllableBook.NONE, -6);
    }

    private static String signature(Method method) {
        List<String> types = new ArrayList<>();
        for (Class<?> type : method.getParameterTypes()) {
            types.add(type.getSimpleName());
        }
        return method.getReturnType().getSimpleName() + " " + method.getName() + "(" + String.join(",", types) + ")";
    }

    private static boolean isPrivate(Member member) {
        return Modifier.isPrivate(member.getModifiers()) || member.isSynthetic();
    }

    private static void face() {
        Set<String> open = new TreeSet<>();
        Set<String> hidden = new TreeSet<>();
        for (Method method : SyllableBook.class.getDeclaredMethods()) {
            (isPrivate(method) ? hidden : open).add(isPrivate(method) ? method.getName() : signature(method));
            Check.isTrue(method + " is public or private", isPrivate(method) || Modifier.isPublic(method.getModifiers()));
        }
        Check.same("the public methods", open.toString(), FACE.toString());
        for (String signature : FACE) {
            Check.isTrue("no private method is called as " + signature, !hidden.contains(nameIn(signature)));
        }
        for (Field field : SyllableBook.class.getDeclaredFields()) {
            Check.isTrue(field + " is private or a constant of the document",
                    isPrivate(field) || CONSTANTS.contains(field.getName()));
            Check.isTrue(field + " is final", Modifier.isFinal(field.getModifiers()));
        }
        Check.isTrue("public final class", Modifier.isFinal(SyllableBook.class.getModifiers()));
        Check.due("constructors", SyllableBook.class.getDeclaredConstructors().length, 1);
    }

    private static String nameIn(String signature) {
        return signature.substring(signature.indexOf(' ') + 1, signature.indexOf('('));
    }

    private static void classesInside() {
        Class<?>[] inside = SyllableBook.class.getDeclaredClasses();
        Check.isTrue("at most some twelve classes", inside.length < 12);
        for (Class<?> one : inside) {
            Check.isTrue(one + " is static", Modifier.isStatic(one.getModifiers()));
            Check.isTrue(one + " is not public or protected",
                    (one.getModifiers() & (Modifier.PUBLIC | Modifier.PROTECTED)) == 0);
            Check.isTrue(one + " has at most some twenty fields", one.getDeclaredFields().length <= 20);
            for (Method method : one.getDeclaredMethods()) {
                boolean named = FACE.stream().anyMatch(signature -> nameIn(signature).equals(method.getName()));
                Check.isTrue(method + " is not called as a public one", !named);
            }
        }
    }

    private static void text() throws Exception {
        String text = Files.readString(Path.of("src/main/java/SyllableBook.java"));
        String code = text.replaceAll("//[^\n]*", "").replaceAll("(?s)/\\*.*?\\*/", "")
                .replace("import java.util.Arrays;", "");
        Matcher found = Pattern.compile("(?<!\\w)(" + FORBIDDEN_WORDS + ")").matcher(code);
        while (found.find()) {
            Check.isTrue("no '" + found.group() + "' in the class", false);
        }
        Matcher library = Pattern.compile("\\b(?:Math|System|Arrays|Integer|Long|String|StringBuilder|List)\\.\\w+").matcher(code);
        while (library.find()) {
            String used = library.group();
            Check.isTrue(used + " is of the library that may be used", LIBRARY.contains(used));
        }
        Check.isTrue("signs 1 to 127", text.chars().allMatch(sign -> sign > 0 && sign < 128));
        Check.isTrue("no package line", !code.contains("package "));
    }

    /** All calls of a run share one room: only the constructor makes anything. */
    private static void room() {
        var threads = (com.sun.management.ThreadMXBean) java.lang.management.ManagementFactory.getThreadMXBean();
        if (!threads.isThreadAllocatedMemorySupported()) {
            return;
        }
        SyllableBook warm = new SyllableBook();
        manyCalls(warm);
        SyllableBook book = new SyllableBook();
        long before = threads.getCurrentThreadAllocatedBytes();
        manyCalls(book);
        long made = threads.getCurrentThreadAllocatedBytes() - before;
        Check.isTrue("calls make nothing, but made " + made + " bytes", made < 10000);
    }

    private static void manyCalls(SyllableBook book) {
        for (int round = 0; round < 15; round++) {
            book.put(0x616263616263L + round % 3);
            book.word(1 + round);
            book.grow();
            book.put(0x6161L + round % 5);
            book.costWith(3);
            book.piece(3);
            book.tune();
            book.least();
            book.save(round % 2);
            book.shrink(8);
            book.undo();
            book.restore(round % 2);
            for (int what = 0; what < 9; what++) {
                book.ofPiece(0, what);
                book.ofWord(0, what);
                book.count(what);
            }
            book.share(0, 0);
            book.product(0, 0);
            book.part(0, 0, 0);
            book.growing(0);
        }
    }
}
