import java.io.IOException;
import java.nio.file.Files;
import java.nio.file.Path;
import java.util.ArrayList;
import java.util.List;
import java.util.regex.Matcher;
import java.util.regex.Pattern;
import java.util.stream.Stream;

/**
 * The document from its first line to its last: the sentences that name no edge, and that each one is quoted by
 * some test. Run from the project's folder.
 */
public final class DocumentTest {
    private static final String DOCUMENT = read(Path.of("../shared/DOC.md"));

    /** 16 pieces, and a word that fe|D best cuts. */
    private static final String SIXTEEN = "a 1,b 2,c 3,e 1,f 1,aa 6,bb 7,cc 8,ee 9,ff 1,ab 2,bc 3,ac 4,ca 5,ba 6,fe 9";

    public static void main(String[] args) throws IOException {
        whatItIs();
        afterTheLastCall();
        errorCodes();
        constants();
        headings();
        changes();
        whatThereIs();
        whatIf();
        growingOfAFullBook();
        theBoundOfAll();
        undone();
        everySentenceIsQuoted();
        Check.finish("DocumentTest");
    }

    private static String read(Path path) {
        try {
            return Files.readString(path);
        } catch (IOException e) {
            return "";
        }
    }

    // ---- ahead of the promises

    /** One run through all that the first lines name. */
    private static void whatItIs() {
        Edge.terms("Words that are cut into pieces of a book");
        SyllableBook book = Check.book("a 2,ab 3,b 1", "abab 3,abc 1");
        Edge.same("word 0", Check.cut(book, 0), "ab|ab");
        Edge.terms("pieces with weights");
        Edge.due("a", book.ofPiece(0, 1), 2);
        Edge.terms("all ways to cut a word and their products");
        // ab|ab 9, ab|a|b and a|b|ab 6 each, a|b|a|b 4
        Edge.due("ways", book.ofWord(0, 5), 4);
        Edge.due("products", book.product(0, 0), 25);
        Edge.terms("the likeliest cut");
        Edge.due("abab", book.product(0, 1), 9);
        Edge.terms("how much of a word a piece bears over all cuts");
        Edge.due("a", book.share(0, 0), 1000 * (6 + 6 + 2 * 4) / 25);
        Edge.terms("letters that no piece has");
        Edge.same("word 1", Check.cut(book, 1), "ab|C");
        Edge.due("word 1", book.ofWord(1, 3), 1);
        Edge.terms("words with counts");
        Edge.due("word 0", book.ofWord(0, 1), 3);
        Edge.terms("pieces that grow out of neighbours in the likeliest cuts");
        Edge.due("abab", book.grow(), 3);
        Edge.same("abab", Check.pieceText(book, 3), "abab");
        Edge.terms("weights that are tuned by what the pieces bear");
        // b: a 20 * 1000 / 28 * 3 and 400, ab 30 * 1000 / 28 * 3 and 600, b as a, abab 3 * 1000 / 28 * 3
        Edge.same("b", book.ofPiece(0, 8) + " " + book.ofPiece(1, 8) + " " + book.ofPiece(2, 8) + " " + book.ofPiece(3, 8),
                "2542 3813 2542 321");
        Edge.due("all four are others then", book.tune(), 4);
        Edge.same("weights", Check.contents(book), "a 6,ab 9,b 6,abab 1, /abab 3,abc 1,");
        Edge.terms("pieces that are dropped by the loss that they leave, a book of a told size");
        Edge.due("two too many", book.shrink(2), 2);
        Edge.due("its size", book.count(0), 2);
        Edge.same("pieces", Check.contents(book), "a 6,ab 9, /abab 3,abc 1,");
        aboutThePad(book);
    }

    private static void aboutThePad(SyllableBook book) {
        Edge.terms("pieces and words that are read from a pad, undo, and saved states.");
        Edge.due("save", book.save(0), 2);
        Edge.due("piece", Check.piece(book, "cd", 4), 2);
        Edge.due("word", Check.word(book, "cdcd", 5), 2);
        Edge.same("both", Check.contents(book), "a 6,ab 9,cd 4, /abab 3,abc 1,cdcd 5,");
        Edge.due("undo", book.undo(), 5);
        Edge.same("without the word", Check.contents(book), "a 6,ab 9,cd 4, /abab 3,abc 1,");
        Edge.due("restore", book.restore(0), 2);
        Edge.same("as it was saved", Check.contents(book), "a 6,ab 9, /abab 3,abc 1,");
    }

    /** What later calls answer is free, but they answer, and end. */
    private static void afterTheLastCall() {
        Edge.terms("what later calls answer is free.");
        SyllableBook book = Edge.full("abg").get();
        for (int call = 0; call < 5000; call++) {
            book.put(call * 0x0101010101010101L);
            book.word(1 + call % 99);
            book.grow();
            book.tune();
            book.undo();
            book.shrink(call % 17);
            book.restore(call % 2);
            book.save(call % 2);
            book.wipe();
            book.put(0x6162636465666162L);
            book.word(99);
        }
        Edge.isTrue("the object still answers", book.count(6) >= SyllableBook.NONE);
    }

    /** All answers of calls that fail, of a book of each kind. */
    private static void errorCodes() {
        Edge.terms("A method that fails returns one of the error codes NO_SUCH (-1), BAD_VALUE (-2), BAD_TEXT (-3), "
                + "TOO_MANY (-4) and NOT_POSSIBLE (-5)");
        SyllableBook full = Edge.full("fed").get();
        Edge.due("NO_SUCH", full.drop(16), -1);
        Edge.due("NO_SUCH, as a long", full.product(8, 0), -1L);
        Edge.due("BAD_VALUE", full.shrink(17), -2);
        Edge.due("BAD_VALUE, as a long", full.product(0, 2), -2L);
        Edge.due("TOO_MANY", full.piece(1), -4);
        Edge.due("NOT_POSSIBLE", new SyllableBook().undo(), -5);
        Edge.due("BAD_TEXT", new SyllableBook().word(1), -3);
        Edge.terms("CONVENTIONS.");
        int[] fars = {Edge.LEAST, -1, 0, 1, 3, 16, 17, 100, Edge.GREATEST};
        for (int far : fars) {
            for (var make : List.of(Edge.empty("abg"), Edge.few("fed"), Edge.full("fed"))) {
                for (long answer : answers(make.get(), far)) {
                    Edge.isTrue(far + ": " + answer + " is a number, an error code or NONE", answer >= SyllableBook.NONE);
                }
            }
        }
    }

    private static long[] answers(SyllableBook book, int far) {
        return new long[] {
            book.ofPiece(far, 0), book.ofPiece(0, far), book.ofWord(far, 0), book.ofWord(0, far), book.letter(far, 0),
            book.letter(0, far), book.product(far, 0), book.product(0, far), book.part(far, 0, 0), book.part(0, far, 0),
            book.part(0, 0, far), book.share(far, 0), book.share(0, far), book.count(far), book.costWith(far),
            book.growing(far), book.least(), book.fault(), book.put(far), book.save(far), book.restore(far),
            book.weigh(far, 1), book.weigh(0, far), book.recount(far, 1), book.recount(0, far), book.shrink(far),
            book.grow(), book.tune(), book.piece(far), book.word(far), book.drop(far), book.forget(far), book.undo(),
            book.wipe(),
        };
    }

    private static void constants() {
        Edge.terms("The constants: `NO_SUCH = -1, BAD_VALUE = -2, BAD_TEXT = -3, TOO_MANY = -4, NOT_POSSIBLE = -5, "
                + "NONE = -6`: Error codes, and NONE: there is none.");
        int[] constants = {SyllableBook.NO_SUCH, SyllableBook.BAD_VALUE, SyllableBook.BAD_TEXT, SyllableBook.TOO_MANY,
            SyllableBook.NOT_POSSIBLE, SyllableBook.NONE};
        for (int i = 0; i < constants.length; i++) {
            Edge.due("constant " + i, constants[i], -1 - i);
        }
    }

    /** The class has its calls in the interface's order, under the interface's headings. */
    private static void headings() throws IOException {
        String text = Files.readString(Path.of("src/main/java/SyllableBook.java"));
        Edge.terms("Ahead of the calls `piece`, `weigh`, `drop`, `word`, `recount`, `forget`, `grow`, `tune`, `shrink` "
                + "the interface says: ---- changes.");
        under(text, "changes", "what there is", "piece weigh drop word recount forget grow tune shrink");
        Edge.terms("Ahead of the calls `ofPiece`, `ofWord`, `letter`, `product`, `part`, `share`, `count` "
                + "the interface says: ---- what there is.");
        under(text, "what there is", "what if; nothing changes", "ofPiece ofWord letter product part share count");
        Edge.terms("Ahead of the calls `costWith`, `growing`, `least` the interface says: ---- what if; nothing changes.");
        under(text, "what if; nothing changes", "the pad", "costWith growing least");
        Edge.terms("Ahead of the calls `put`, `wipe`, `fault` the interface says: ---- the pad.");
        under(text, "the pad", "undo, saving", "put wipe fault");
        Edge.terms("Ahead of the calls `undo`, `save`, `restore` the interface says: ---- undo, saving.");
        under(text, "undo, saving", "helpers", "undo save restore");
    }

    private static void under(String text, String heading, String next, String calls) {
        int from = Math.max(0, text.indexOf("// ---- " + heading + "\n"));
        int to = Math.max(from, text.indexOf("// ---- " + next + "\n"));
        List<String> found = new ArrayList<>();
        Matcher call = Pattern.compile("public \\w+ (\\w+)\\(").matcher(text.substring(from, to));
        while (call.find()) {
            found.add(call.group(1));
        }
        Edge.same("the class's calls there", String.join(" ", found), calls);
    }

    // ---- the promises

    private static void changes() {
        SyllableBook book = Check.book("a 2,ab 3", "abab 3");
        Edge.promise(3, "Changes the weight of a piece.");
        Edge.due("ab", book.weigh(1, 1), 3);
        Edge.same("ab", Check.contents(book), "a 2,ab 1, /abab 3,");
        Edge.promise(6, "Changes the count of a word.");
        Edge.due("abab", book.recount(0, 5), 3);
        Edge.same("abab", Check.contents(book), "a 2,ab 1, /abab 5,");
        Edge.promise(8, "becomes a piece");
        // a|B|a|B now: of ab, which is a piece, and Ba, this one grows
        Edge.same("ahead of it", Check.cut(book, 0), "a|B|a|B");
        Edge.due("ba", book.grow(), 2);
        Edge.same("ba", Check.contents(book), "a 2,ab 1,ba 1, /abab 5,");
        Edge.promise(9, "Tunes the weights");
        Edge.due("of all pieces", book.tune(), 3);
        // a|B|a|B 4, ab|a|B, a|B|ab and a|ba|B 2 each, ab|ab 1: a 14, ab 6, ba 2 of 11
        Edge.same("of all pieces", Check.contents(book), "a 9,ab 4,ba 2, /abab 5,");
        Edge.promise(4, "Drops a piece.");
        Edge.due("ab", book.drop(1), 2);
        Edge.same("ab", Check.contents(book), "a 9,ba 2, /abab 5,");
        Edge.promise(7, "Forgets a word.");
        Edge.due("abab", book.forget(0), 0);
        Edge.same("abab", Check.contents(book), "a 9,ba 2, /");
    }

    private static void whatThereIs() {
        SyllableBook book = Check.book("a 2,ab 3,b 1", "abab 3,abc 1");
        Edge.promise(11, "Returns something about a piece.");
        Edge.promise(11, "Returns the number");
        row("ofPiece(1, 0..8)", new long[] {2, 3, 0, 1, Edge.NONE, Edge.NONE, 7, 100007, 4200}, what -> book.ofPiece(1, what));
        Edge.promise(12, "Returns something about a word.");
        Edge.promise(12, "Returns the number");
        row("ofWord(1, 0..5)", new long[] {3, 1, 2, 1, 3, 2}, what -> book.ofWord(1, what));
        Edge.promise(13, "Returns a letter of a word.");
        row("letter(1, 0..3)", new long[] {0, 1, 2, Edge.NO_SUCH}, place -> book.letter(1, place));
        Edge.promise(14, "Returns the total of a word, or the greatest product.");
        Edge.promise(14, "Returns the number");
        row("product(0, 0..2)", new long[] {25, 9, -2}, what -> book.product(0, what));
        Edge.promise(15, "Returns something about a part of the best cut of a word.");
        Edge.promise(15, "Returns the number");
        row("part(0, 1, 0..2)", new long[] {1, 2, 2}, what -> book.part(0, 1, what));
        row("part(1, 1, 0..2)", new long[] {Edge.NONE, 2, 1}, what -> book.part(1, 1, what));
        Edge.terms("The share of a piece in a word, in thousandths, is");
        Edge.promise(16, "Returns the share of a piece in a word.");
        row("share(0, 0..3)", new long[] {800, 1200, 800, Edge.NO_SUCH}, piece -> book.share(0, piece));
        Edge.promise(17, "Returns a number.");
        Edge.promise(17, "Returns the number");
        row("count(0..8)", new long[] {3, 2, 9, 15, 8, 1, 0, 5, Edge.BAD_VALUE}, book::count);
    }

    private interface Asked {
        long of(int number);
    }

    private static void row(String which, long[] due, Asked call) {
        for (int number = 0; number < due.length; number++) {
            Edge.due(which + ", " + number, call.of(number), due[number]);
        }
    }

    private static void whatIf() {
        Edge.promise(18, "Returns the cost");
        SyllableBook book = Check.book("a 2,ab 3,b 1", "abab 3,abc 1");
        Check.fill(book, "abc");
        // ab|ab three times, and abc
        Edge.due("with abc", book.costWith(9), 7);
        // 3 * 1 against abc's 2: it stays ab|C
        Edge.due("with abc of a low weight", book.costWith(2), 9);
        Edge.promise(20, "Returns the piece");
        Edge.due("b, of the same loss as a, but of a lower weight", book.least(), 2);
        Edge.promise(21, "They are given as a number");
        Edge.due("~!~!~!~!", new SyllableBook().put(0x7e217e217e217e21L), 8);
    }

    /** growing names two answers, and TOO_MANY is none of them: that grow() has no room is told by grow() alone. */
    private static void growingOfAFullBook() {
        Edge.terms("it names its errors in the order in which they are checked, and the first one that applies is returned");
        Edge.promise(19, "Returns the number; BAD_VALUE if what is out of range; NONE if there is no such text.");
        SyllableBook full = Check.book(SIXTEEN, "fed 7");
        Edge.due("pieces", full.count(0), 16);
        Edge.due("grow: no room", full.grow(), Edge.TOO_MANY);
        row("growing(0..7)", new long[] {3, 7, 1, 5, 4, 3, Edge.NONE, Edge.BAD_VALUE}, full::growing);
        Edge.due("growing(-1)", full.growing(-1), Edge.BAD_VALUE);
        full.drop(0);
        Edge.due("grow: room", full.grow(), 15);
        Edge.same("grow: the text that was told", Check.pieceText(full, 15) + " " + full.ofPiece(15, 1), "fed 1");
        row("growing(0..7): no such text any more", new long[] {Edge.NONE, Edge.NONE, Edge.NONE, Edge.NONE, Edge.NONE,
            Edge.NONE, Edge.NONE, Edge.BAD_VALUE}, full::growing);
    }

    /** The greatest numbers that a book can tell, at once: none of them may wrap around. */
    private static void theBoundOfAll() {
        Edge.promise(9, "the weight of each piece becomes 1 + 8 * its b / the greatest b");
        SyllableBook book = Check.book("a 9,b 9", "aaaaaaaaaaaa 99,aaaaaaaaaaaa 99,aaaaaaaaaaaa 99,aaaaaaaaaaaa 99,"
                + "aaaaaaaaaaaa 99,aaaaaaaaaaaa 99,aaaaaaaaaaaa 99,aaaaaabbbbbb 99");
        Edge.due("b of a", book.ofPiece(0, 8), 99 * (7 * 12000 + 6000));
        Edge.due("b of b", book.ofPiece(1, 8), 99 * 6000);
        Edge.due("tune", book.tune(), 1);
        Edge.due("weight of b: 8 * 594000 / 8910000 is below 1", book.ofPiece(1, 1), 1);
        Edge.promise(14, "0 the total, 1 the product of the best cut");
        Edge.due("9 to the 12th", book.product(0, 1), 282429536481L);
    }

    private static void undone() {
        Edge.promise(24, "Undoes the latest change");
        SyllableBook book = Check.book("a 1", "abc 1");
        book.weigh(0, 5);
        book.recount(0, 9);
        Edge.due("recount", book.undo(), 3);
        Edge.same("the latest, not the one before it", Check.contents(book), "a 5, /abc 1,");
    }

    // ---- quotes

    /** What no test quotes must be a heading, the face or the head of a promise. */
    private static void everySentenceIsQuoted() throws IOException {
        StringBuilder rest = new StringBuilder(DOCUMENT);
        try (Stream<Path> files = Files.list(Path.of("src/test/java"))) {
            for (Path file : files.sorted().toList()) {
                takeQuotes(read(file), rest);
            }
        }
        int end = rest.indexOf("## Not promised");
        Check.isTrue("the document has its last part", end > 0);
        String left = rest.substring(0, Math.max(0, end)).replaceAll("(?s)```java.*?```", "")
                .replaceAll("(?m)^`[A-Za-z]+ ?[a-z]*[A-Za-z]*\\([a-z ,A-Z]*\\)`:", "");
        for (String line : left.split("\n")) {
            boolean isHeading = line.startsWith("#") || line.equals("Letters, pieces, words") || line.equals("The cost, losses");
            boolean isEmpty = line.replace("- `what`:", "").matches("[^A-Za-z]*(and)?[^A-Za-z]*");
            Check.isTrue("a test quotes '" + line.trim() + "'", isHeading || isEmpty);
        }
    }

    private static void takeQuotes(String test, StringBuilder rest) {
        Matcher call = Pattern.compile("Edge\\.(?:terms\\(|promise\\((\\w+), )((?:\"[^\"]*\"[\\s+]*)+)\\)").matcher(test);
        while (call.find()) {
            StringBuilder words = new StringBuilder();
            Matcher literal = Pattern.compile("\"([^\"]*)\"").matcher(call.group(2));
            while (literal.find()) {
                words.append(literal.group(1));
            }
            String promise = call.group(1);
            if (promise == null) {
                takeFrom(rest, words.toString(), 0, rest.indexOf("## Promise 1:"));
            } else {
                // A promise whose number is a name is one of several: the call itself fails where one lacks the words.
                boolean isNumber = Character.isDigit(promise.charAt(0));
                int from = isNumber ? rest.indexOf("## Promise " + promise + ":") : rest.indexOf("## Promise 1:");
                takeFrom(rest, words.toString(), from, rest.indexOf(isNumber ? "\n## " : "## Not promised", from + 1));
            }
        }
    }

    /** Blanks the words out of the rest, wherever they stand in this part of it in the document. */
    private static void takeFrom(StringBuilder rest, String words, int from, int to) {
        if (from < 0 || to < 0) {
            return;
        }
        for (int at = DOCUMENT.indexOf(words, from); at >= 0 && at + words.length() <= to;
                at = DOCUMENT.indexOf(words, at + 1)) {
            for (int i = 0; i < words.length(); i++) {
                rest.setCharAt(at + i, ' ');
            }
        }
    }
}
