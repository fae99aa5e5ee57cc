/** Promises 24 to 26: undo, save, restore. */
public final class HistoryTest {
    private static final String PIECES = "a 2,ab 3,bc 5";
    private static final String WORDS = "abab 3,abc 1";

    public static void main(String[] args) {
        eachChange();
        noChanges();
        sixStates();
        undoOfAll();
        saving();
        fullBook();
        restoring();
        Check.finish("HistoryTest");
    }

    private interface Call {
        long on(SyllableBook book);
    }

    /** A change records one state, and undo brings it back, but leaves the pad. */
    private static void change(String name, Call call) {
        SyllableBook book = Check.book("", "abab 3");
        Check.piece(book, "ab", 3);
        Check.piece(book, "b", 1);
        book.save(1);
        Check.fill(book, "cd");
        String before = Check.contents(book);
        Check.due("count(7) ahead of " + name, book.count(7), 3);
        Check.isTrue(name + " is no error", call.on(book) >= 0);
        Check.due("count(7) after " + name, book.count(7), 4);
        int pad = book.count(6);
        Check.due("undo() of " + name, book.undo(), 3);
        Check.same(name + " is undone", Check.contents(book), before);
        Check.due(name + ": undo leaves the pad", book.count(6), pad);
    }

    private static void eachChange() {
        change("piece", book -> book.piece(4));
        change("weigh", book -> book.weigh(0, 9));
        change("weigh to the same", book -> book.weigh(0, 3));
        change("drop", book -> book.drop(0));
        change("word", book -> book.word(4));
        change("recount", book -> book.recount(0, 9));
        change("recount to the same", book -> book.recount(0, 3));
        change("forget", book -> book.forget(0));
        change("grow", SyllableBook::grow);
        change("tune", SyllableBook::tune);
        change("shrink", book -> book.shrink(1));
        change("shrink by none", book -> book.shrink(16));
        change("restore", book -> book.restore(1));
    }

    private static void noChanges() {
        SyllableBook book = Check.book(PIECES, WORDS);
        book.put('a');
        book.wipe();
        book.fault();
        book.save(0);
        book.count(2);
        book.least();
        book.growing(0);
        book.put(Check.packed("cc"));
        book.costWith(3);
        book.ofPiece(0, 7);
        Check.due("no change is recorded by what is none", book.count(7), 5);
        Check.due("undo: tells how many are left", book.undo(), 4);
        Check.due("undo: is no change itself", book.undo(), 3);
        Check.same("undo: the words are gone", Check.contents(book), "a 2,ab 3,bc 5, /");
        Check.due("undo: the pad stays", book.count(6), 2);
    }

    private static void sixStates() {
        SyllableBook book = new SyllableBook();
        String[] texts = {"a", "b", "c", "d", "e", "f", "ab", "cd"};
        for (int i = 0; i < 8; i++) {
            Check.piece(book, texts[i], i + 1);
        }
        Check.due("undo: 8 pieces", book.count(0), 8);
        Check.due("undo: at most 6 states", book.count(7), 6);
        for (int left = 5; left >= 0; left--) {
            Check.due("undo: left", book.undo(), left);
            Check.due("undo: pieces", book.count(0), 2 + left);
        }
        Check.due("undo: none is left", book.undo(), SyllableBook.NOT_POSSIBLE);
        Check.same("undo: an error changes nothing", Check.contents(book), "a 1,b 2, /");
        book.weigh(0, 5);
        Check.due("undo: a new change", book.count(7), 1);
        Check.due("undo: of the new change", book.undo(), 0);
        Check.same("undo: as before it", Check.contents(book), "a 1,b 2, /");
    }

    private static void undoOfAll() {
        SyllableBook book = new SyllableBook();
        String[] states = new String[6];
        Call[] calls = {b -> Check.word(b, "abcabc", 2), SyllableBook::grow, SyllableBook::grow, b -> b.weigh(1, 9),
            b -> b.tune(), b -> b.shrink(1)};
        for (int i = 0; i < 6; i++) {
            states[i] = Check.contents(book);
            calls[i].on(book);
        }
        for (int i = 5; i >= 0; i--) {
            book.undo();
            Check.same("undo: back to state " + i, Check.contents(book), states[i]);
        }
    }

    private static void saving() {
        SyllableBook book = Check.book(PIECES, WORDS);
        Check.due("save: how many pieces", book.save(0), 3);
        Check.due("save: is no change", book.count(7), 5);
        String first = Check.contents(book);
        book.weigh(0, 9);
        book.recount(1, 50);
        book.drop(2);
        Check.due("save: another slot", book.save(1), 2);
        String second = Check.contents(book);
        book.shrink(0);
        Check.due("restore: slot 0", book.restore(0), 3);
        Check.same("restore: slot 0", Check.contents(book), first);
        Check.due("restore: slot 1", book.restore(1), 2);
        Check.same("restore: slot 1", Check.contents(book), second);
        Check.due("restore: slot 0 keeps it", book.restore(0), 3);
        Check.same("restore: slot 0 again", Check.contents(book), first);
        book.forget(0);
        Check.due("save: overwrites", book.save(0), 3);
        book.forget(0);
        book.restore(0);
        Check.same("restore: what was saved last", Check.contents(book), "a 2,ab 3,bc 5, /abc 1,");
        SyllableBook empty = new SyllableBook();
        Check.due("save: an empty book", empty.save(1), 0);
        Check.piece(empty, "a", 1);
        Check.due("restore: an empty book", empty.restore(1), 0);
        Check.same("restore: an empty book", Check.contents(empty), " /");
    }

    private static void fullBook() {
        StringBuilder words = new StringBuilder("abcdefabcdef 1");
        for (int count = 2; count <= 8; count++) {
            words.append(",fedcba").append("abcdef", 0, count - 2).append(' ').append(count);
        }
        String pieces = "a 1,b 2,c 3,d 4,e 5,f 6,aa 7,bb 8,cc 9,dd 1,ee 2,ff 3,aaa 4,bbb 5,ccc 6,abcd 7";
        SyllableBook book = Check.book(pieces, words.toString());
        String full = Check.contents(book);
        Check.due("save: a full book", book.save(1), 16);
        book.shrink(0);
        book.forget(0);
        Check.word(book, "aaaaaaaaaaaa", 9);
        book.undo();
        book.undo();
        book.undo();
        Check.same("undo: a full book", Check.contents(book), full);
        book.forget(0);
        Check.due("restore: a full book", book.restore(1), 16);
        Check.same("restore: a full book", Check.contents(book), full);
    }

    private static void restoring() {
        SyllableBook book = Check.book(PIECES, "");
        book.save(0);
        Check.fill(book, "fed");
        book.drop(0);
        book.restore(0);
        Check.due("restore: leaves the pad", book.count(6), 3);
        Check.due("restore: is a change", book.count(7), 5);
        Check.due("undo: of restore", book.undo(), 4);
        Check.same("undo: of restore", Check.contents(book), "ab 3,bc 5, /");
        book.weigh(0, 9);
        book.restore(0);
        Check.same("restore: changes after it don't reach the slot", Check.contents(book), "a 2,ab 3,bc 5, /");
        book.weigh(0, 1);
        book.undo();
        book.restore(0);
        Check.same("restore: nor does undo", Check.contents(book), "a 2,ab 3,bc 5, /");
        SyllableBook undone = Check.book("a 1", "");
        undone.save(0);
        undone.undo();
        Check.due("restore: undo leaves the slots", undone.restore(0), 1);
    }
}
