/** Promises 1 to 4 and 11: a new object, piece, weigh, drop, ofPiece. */
public final class PieceTest {
    private static final String FOUR_PIECES = "a 2,ab 3,cdef 9,bcd 1";
    private static final String SIXTEEN = "a 1,b 1,c 1,d 1,e 1,f 1,aa 1,bb 1,cc 1,dd 1,ee 1,ff 1,aaa 1,bbb 1,ccc 1,abcd 1";

    public static void main(String[] args) {
        newObject();
        pieces();
        weights();
        drops();
        aboutPieces();
        Check.finish("PieceTest");
    }

    private static void newObject() {
        SyllableBook book = new SyllableBook();
        for (int what = 0; what <= 7; what++) {
            Check.due("new: count(" + what + ")", book.count(what), 0);
        }
        Check.due("new: ofPiece(0, 0)", book.ofPiece(0, 0), SyllableBook.NO_SUCH);
        Check.due("new: ofWord(0, 0)", book.ofWord(0, 0), SyllableBook.NO_SUCH);
        Check.due("new: fault()", book.fault(), SyllableBook.NONE);
        Check.due("new: undo()", book.undo(), SyllableBook.NOT_POSSIBLE);
        Check.due("new: restore(0)", book.restore(0), SyllableBook.NOT_POSSIBLE);
        Check.due("new: restore(1)", book.restore(1), SyllableBook.NOT_POSSIBLE);
        Check.piece(book, "a", 1);
        Check.due("new: another one is empty", new SyllableBook().count(0), 0);
    }

    private static void pieces() {
        SyllableBook book = new SyllableBook();
        Check.due("piece: the first, weight 1", Check.piece(book, "a", 1), 0);
        Check.due("piece: empties the pad", book.count(6), 0);
        Check.due("piece: is a change", book.count(7), 1);
        Check.due("piece: 4 letters, weight 9", Check.piece(book, "fedc", 9), 1);
        Check.due("piece: part of another", Check.piece(book, "ed", 5), 2);
        Check.same("piece: all", Check.contents(book), "a 1,fedc 9,ed 5, /");
        SyllableBook full = Check.book(SIXTEEN, "");
        Check.due("piece: 16 of them", full.count(0), 16);
        Check.same("piece: the 16th", Check.pieceText(full, 15), "abcd");
    }

    private static void weights() {
        SyllableBook book = Check.book(FOUR_PIECES, "");
        Check.due("weigh: to 1", book.weigh(0, 1), 2);
        Check.due("weigh: to 9", book.weigh(3, 9), 1);
        Check.due("weigh: to the same", book.weigh(3, 9), 9);
        Check.due("weigh: is a change, also if nothing is different", book.count(7), 6);
        Check.same("weigh: all", Check.contents(book), "a 1,ab 3,cdef 9,bcd 9, /");
    }

    private static void drops() {
        SyllableBook book = Check.book(FOUR_PIECES, "abcd 1");
        Check.due("drop: behind the last", book.drop(4), SyllableBook.NO_SUCH);
        Check.due("drop: -1", book.drop(-1), SyllableBook.NO_SUCH);
        Check.due("drop: an error is no change", book.count(7), 5);
        Check.due("drop: in the middle", book.drop(1), 3);
        Check.same("drop: those behind move up", Check.contents(book), "a 2,cdef 9,bcd 1, /abcd 1,");
        Check.due("drop: is a change", book.count(7), 6);
        Check.due("drop: the last", book.drop(2), 2);
        Check.due("drop: the first", book.drop(0), 1);
        Check.same("drop: one is left", Check.contents(book), "cdef 9, /abcd 1,");
        Check.due("drop: the only one", book.drop(0), 0);
        Check.due("drop: none is left", book.drop(0), SyllableBook.NO_SUCH);
        SyllableBook full = Check.book(SIXTEEN, "");
        Check.due("drop: number 16 of 16", full.drop(16), SyllableBook.NO_SUCH);
        Check.due("drop: the first of 16", full.drop(0), 15);
        Check.same("drop: the last of 16 moved up", Check.pieceText(full, 14), "abcd");
        Check.due("drop: makes room", Check.piece(full, "a", 1), 15);
    }

    private static void aboutPieces() {
        SyllableBook book = Check.book("a 2,ab 3,fb 1,bcda 4", "abab 3,abc 1");
        Check.due("ofPiece: letters", book.ofPiece(1, 0), 2);
        Check.due("ofPiece: 4 letters", book.ofPiece(3, 0), 4);
        Check.due("ofPiece: weight", book.ofPiece(3, 1), 4);
        Check.due("ofPiece: first letter f", book.ofPiece(2, 2), 5);
        Check.due("ofPiece: second letter", book.ofPiece(2, 3), 1);
        Check.due("ofPiece: behind the last", book.ofPiece(2, 4), SyllableBook.NONE);
        Check.due("ofPiece: far behind the last", book.ofPiece(0, 5), SyllableBook.NONE);
        Check.due("ofPiece: the only letter a", book.ofPiece(0, 2), 0);
        Check.same("ofPiece: all letters", Check.pieceText(book, 3), "bcda");
        // ab|ab three times, ab|C once
        Check.due("ofPiece: times in the best cuts", book.ofPiece(1, 6), 7);
        Check.due("ofPiece: never in the best cuts", book.ofPiece(0, 6), 0);
        // without ab: a|B|a|B costs 6 and a|B|C 5, instead of 2 and 3
        Check.due("ofPiece: loss", book.ofPiece(1, 7), 100014);
        Check.due("ofPiece: no loss", book.ofPiece(0, 7), 100000);
        // abab: ab|ab 9, ab|a|B 6, a|B|ab 6, a|B|a|B 4; abc: ab|C 3, a|B|C 2: shares 1200 and 600
        Check.due("ofPiece: b", book.ofPiece(1, 8), 3 * 1200 + 600);
        Check.due("ofPiece: b of another", book.ofPiece(0, 8), 3 * 800 + 400);
        Check.due("ofPiece: b of an unused one", book.ofPiece(2, 8), 0);
        Check.due("ofPiece: what 9", book.ofPiece(0, 9), SyllableBook.BAD_VALUE);
        Check.due("ofPiece: what -1", book.ofPiece(0, -1), SyllableBook.BAD_VALUE);
        Check.due("ofPiece: no piece 4", book.ofPiece(4, 0), SyllableBook.NO_SUCH);
        Check.due("ofPiece: no piece -1", book.ofPiece(-1, 0), SyllableBook.NO_SUCH);
        Check.due("ofPiece: piece ahead of what", book.ofPiece(4, 9), SyllableBook.NO_SUCH);
        // The heavy aa leaves a lone A behind: 3 letters a cost aa|A = 3; without it aaa costs 1.
        SyllableBook negative = Check.book("aa 9,aaa 1", "aaa 5");
        Check.due("ofPiece: loss below 0", negative.ofPiece(0, 7), 100000 + 5 * (1 - 3));
        Check.due("ofPiece: changes nothing", negative.count(7), 3);
        // A single letter without its piece is an unseen one.
        SyllableBook single = Check.book("a 1", "aba 2");
        Check.due("ofPiece: loss of a letter", single.ofPiece(0, 7), 100000 + 2 * (6 - 4));
        Check.due("ofPiece: twice in a cut", single.ofPiece(0, 6), 4);
    }
}
