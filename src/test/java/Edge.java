import java.io.IOException;
import java.nio.file.Files;
import java.nio.file.Path;
import java.util.function.Supplier;
import java.util.function.ToLongFunction;

/** What the tests of edges share: each sentence is quoted from the document, then asked at its edge and outside. */
final class Edge {
    static final int NO_SUCH = SyllableBook.NO_SUCH;
    static final int BAD_VALUE = SyllableBook.BAD_VALUE;
    static final int BAD_TEXT = SyllableBook.BAD_TEXT;
    static final int TOO_MANY = SyllableBook.TOO_MANY;
    static final int NOT_POSSIBLE = SyllableBook.NOT_POSSIBLE;
    static final int NONE = SyllableBook.NONE;

    static final int LEAST = Integer.MIN_VALUE;
    static final int GREATEST = Integer.MAX_VALUE;

    /** The undo of a full history, and once more. */
    private static final int MOST_UNDOS = 7;

    private static final String DOCUMENT = document();
    private static String sentence = "";

    private Edge() {
    }

    private static String document() {
        try {
            return Files.readString(Path.of("../shared/DOC.md"));
        } catch (IOException e) {
            return "";
        }
    }

    // ---- sentences

    /** Ahead of the checks of one sentence of a promise, in the document's own words. */
    static void promise(int number, String words) {
        int from = DOCUMENT.indexOf("## Promise " + number + ":");
        int to = DOCUMENT.indexOf("\n## ", from + 1);
        quote("promise " + number, from < 0 || to < 0 ? "" : DOCUMENT.substring(from, to), words);
    }

    /** The same for a sentence that stands ahead of the promises. */
    static void terms(String words) {
        quote("terms", DOCUMENT.substring(0, Math.max(0, DOCUMENT.indexOf("## Promise 1:"))), words);
    }

    private static void quote(String where, String text, String words) {
        sentence = where + ", '" + words + "': ";
        Check.isTrue(sentence + "the document says so", text.contains(words));
    }

    static void due(String which, long got, long want) {
        Check.due(sentence + which, got, want);
    }

    static void same(String which, String got, String want) {
        Check.same(sentence + which, got, want);
    }

    static void isTrue(String which, boolean holds) {
        Check.isTrue(sentence + which, holds);
    }

    // ---- books to ask

    static Supplier<SyllableBook> empty(String pad) {
        return () -> {
            SyllableBook book = new SyllableBook();
            Check.fill(book, pad);
            return book;
        };
    }

    /** 3 pieces, 2 words, 5 changes to undo, something else in slot 1, nothing in slot 0. */
    static Supplier<SyllableBook> few(String pad) {
        return () -> {
            SyllableBook book = Check.book("a 2,ab 3", "");
            book.save(1);
            Check.piece(book, "cdef", 9);
            Check.word(book, "abab", 3);
            Check.word(book, "fc", 99);
            Check.fill(book, pad);
            return book;
        };
    }

    /** 16 pieces, 8 words, 6 changes to undo, something else in each slot. */
    static Supplier<SyllableBook> full(String pad) {
        return () -> {
            SyllableBook book = Check.book("a 1,b 2,c 3,d 4,e 5,f 6,aa 7,bb 8,cc 9,dd 1,ee 2", "face 9");
            book.save(0);
            for (String piece : new String[] {"ff 3", "aaa 4", "bbb 5", "ccc 6", "abcd 7"}) {
                Check.piece(book, piece.substring(0, piece.length() - 2), piece.charAt(piece.length() - 1) - '0');
            }
            book.save(1);
            String[] words = {"a", "fe", "abab", "ddf", "cafe", "bbaacc", "abcdefabcdef"};
            for (int i = 0; i < words.length; i++) {
                Check.word(book, words[i], 1 + 14 * i);
            }
            Check.fill(book, pad);
            return book;
        };
    }

    // ---- what later calls show

    /** The call answers with this error, and no later call shows that it was made. */
    static void refused(String which, Supplier<SyllableBook> make, ToLongFunction<SyllableBook> call, long error) {
        due(which, call.applyAsLong(make.get()), error);
        unchanged(which, make, call);
    }

    /** No later call shows that this one was made. */
    static void unchanged(String which, Supplier<SyllableBook> make, ToLongFunction<SyllableBook> call) {
        Supplier<SyllableBook> called = () -> {
            SyllableBook book = make.get();
            call.applyAsLong(book);
            return book;
        };
        same(which + ", what later calls show", shows(called), shows(make));
    }

    /** Answers of all kinds of calls, each kind on an object of its own: none gets near 512 calls. */
    static String shows(Supplier<SyllableBook> make) {
        StringBuilder all = new StringBuilder();
        showPieces(make.get(), all);
        showWords(make.get(), all);
        showShares(make.get(), all);
        showPad(make.get(), all);
        showPadAsPiece(make.get(), all);
        showPadAsWord(make.get(), all);
        showChanges(make.get(), all);
        showSlot(make.get(), 0, all);
        showSlot(make.get(), 1, all);
        for (int undos = 1; undos <= MOST_UNDOS; undos++) {
            showUndos(make.get(), undos, all);
        }
        return all.toString();
    }

    private static void add(StringBuilder all, String call, long answer) {
        all.append(call).append('=').append(answer).append(' ');
    }

    private static void showPieces(SyllableBook book, StringBuilder all) {
        all.append("\npieces: ");
        for (int what = 0; what <= 7; what++) {
            add(all, "count " + what, book.count(what));
        }
        for (int piece = 0; piece <= book.count(0); piece++) {
            for (int what = 0; what <= 8; what++) {
                add(all, "ofPiece " + piece + " " + what, book.ofPiece(piece, what));
            }
        }
        for (int what = 0; what <= 6; what++) {
            add(all, "growing " + what, book.growing(what));
        }
        add(all, "least", book.least());
    }

    private static void showWords(SyllableBook book, StringBuilder all) {
        all.append("\nwords: ");
        for (int word = 0; word <= book.count(1); word++) {
            for (int what = 0; what <= 5; what++) {
                add(all, "ofWord " + word + " " + what, book.ofWord(word, what));
            }
            add(all, "total " + word, book.product(word, 0));
            add(all, "best " + word, book.product(word, 1));
            all.append(Check.letters(book, word)).append(' ').append(Check.cut(book, word)).append(' ');
        }
    }

    private static void showShares(SyllableBook book, StringBuilder all) {
        all.append("\nshares: ");
        for (int word = 0; word < book.count(1); word++) {
            for (int piece = 0; piece < book.count(0); piece++) {
                add(all, "share " + word + " " + piece, book.share(word, piece));
            }
        }
    }

    private static void showPad(SyllableBook book, StringBuilder all) {
        all.append("\npad: ");
        add(all, "fault", book.fault());
        add(all, "costWith 1", book.costWith(1));
        add(all, "costWith 9", book.costWith(9));
        for (int i = 0; i < 17; i++) {
            add(all, "put a", book.put('a'));
        }
        add(all, "fault", book.fault());
        add(all, "wipe", book.wipe());
    }

    private static void showPadAsPiece(SyllableBook book, StringBuilder all) {
        all.append("\npad as a piece: ");
        add(all, "drop 0", book.drop(0));
        add(all, "piece 5", book.piece(5));
        all.append(Check.everything(book));
    }

    private static void showPadAsWord(SyllableBook book, StringBuilder all) {
        all.append("\npad as a word: ");
        add(all, "forget 0", book.forget(0));
        add(all, "word 5", book.word(5));
        all.append(Check.everything(book));
    }

    private static void showChanges(SyllableBook book, StringBuilder all) {
        all.append("\nchanges: ");
        add(all, "grow", book.grow());
        add(all, "shrink 12", book.shrink(12));
        add(all, "grow", book.grow());
        add(all, "tune", book.tune());
        all.append(Check.everything(book));
    }

    private static void showSlot(SyllableBook book, int slot, StringBuilder all) {
        all.append("\nslot ").append(slot).append(": ");
        add(all, "restore", book.restore(slot));
        all.append(Check.everything(book));
    }

    private static void showUndos(SyllableBook book, int undos, StringBuilder all) {
        all.append("\nundos: ");
        for (int i = 0; i < undos; i++) {
            add(all, "undo", book.undo());
        }
        all.append(Check.everything(book));
    }
}
