/** Promises 5 to 7, 12 and 13: word, recount, forget, ofWord, letter. */
public final class WordTest {
    private static final String THREE_WORDS = "abab 3,fedcba 99,c 1";
    private static final String EIGHT_WORDS = "a 1,b 2,c 3,d 4,e 5,f 6,abcdefabcdef 7,a 8";

    public static void main(String[] args) {
        words();
        counts();
        forgetting();
        aboutWords();
        lettersOfWords();
        Check.finish("WordTest");
    }

    private static void words() {
        SyllableBook book = new SyllableBook();
        Check.due("word: one letter, count 1", Check.word(book, "f", 1), 0);
        Check.due("word: empties the pad", book.count(6), 0);
        Check.due("word: is a change", book.count(7), 1);
        Check.due("word: 12 letters, count 99", Check.word(book, "abcdefabcdef", 99), 1);
        Check.due("word: the same letters again", Check.word(book, "f", 2), 2);
        Check.same("word: all", Check.contents(book), " /f 1,abcdefabcdef 99,f 2,");
        Check.due("word: such a piece is no matter", Check.word(Check.book("a 1", ""), "a", 1), 0);
        Check.due("word: 8 of them", Check.book("", EIGHT_WORDS).count(1), 8);
    }

    private static void counts() {
        SyllableBook book = Check.book("", THREE_WORDS);
        Check.due("recount: to 99", book.recount(0, 99), 3);
        Check.due("recount: to 1", book.recount(1, 1), 99);
        Check.due("recount: to the same", book.recount(2, 1), 1);
        Check.due("recount: is a change, also if nothing is different", book.count(7), 6);
        Check.same("recount: all", Check.contents(book), " /abab 99,fedcba 1,c 1,");
    }

    private static void forgetting() {
        SyllableBook book = Check.book("", THREE_WORDS);
        Check.due("forget: behind the last", book.forget(3), SyllableBook.NO_SUCH);
        Check.due("forget: -1", book.forget(-1), SyllableBook.NO_SUCH);
        Check.due("forget: an error is no change", book.count(7), 3);
        Check.due("forget: in the middle", book.forget(1), 2);
        Check.same("forget: those behind move up", Check.contents(book), " /abab 3,c 1,");
        Check.due("forget: is a change", book.count(7), 4);
        Check.due("forget: the last", book.forget(1), 1);
        Check.due("forget: the only one", book.forget(0), 0);
        Check.due("forget: none is left", book.forget(0), SyllableBook.NO_SUCH);
        SyllableBook full = Check.book("", EIGHT_WORDS);
        Check.due("forget: number 8 of 8", full.forget(8), SyllableBook.NO_SUCH);
        Check.due("forget: the first of 8", full.forget(0), 7);
        Check.same("forget: all moved up", Check.contents(full), " /b 2,c 3,d 4,e 5,f 6,abcdefabcdef 7,a 8,");
        Check.due("forget: the sixth of 7", full.forget(5), 6);
        Check.same("forget: the last moved up", Check.contents(full), " /b 2,c 3,d 4,e 5,f 6,a 8,");
        Check.due("forget: makes room", Check.word(full, "b", 1), 6);
    }

    private static void aboutWords() {
        SyllableBook book = Check.book("a 2,ab 3,b 1", "abab 3,abc 7,aaaaaaaaaaaa 99");
        Check.due("ofWord: letters", book.ofWord(0, 0), 4);
        Check.due("ofWord: 12 letters", book.ofWord(2, 0), 12);
        Check.due("ofWord: count", book.ofWord(1, 1), 7);
        Check.due("ofWord: parts", book.ofWord(0, 2), 2);
        Check.due("ofWord: parts, an unseen one too", book.ofWord(1, 2), 2);
        Check.due("ofWord: no unseen", book.ofWord(0, 3), 0);
        Check.due("ofWord: unseen", book.ofWord(1, 3), 1);
        Check.due("ofWord: cost", book.ofWord(0, 4), 6);
        Check.due("ofWord: cost with an unseen one", book.ofWord(1, 4), 21);
        Check.due("ofWord: cuts", book.ofWord(0, 5), 4);
        Check.due("ofWord: cuts with an unseen one", book.ofWord(1, 5), 2);
        Check.due("ofWord: one cut", book.ofWord(2, 5), 1);
        Check.due("ofWord: what 6", book.ofWord(0, 6), SyllableBook.BAD_VALUE);
        Check.due("ofWord: what -1", book.ofWord(0, -1), SyllableBook.BAD_VALUE);
        Check.due("ofWord: no word 3", book.ofWord(3, 0), SyllableBook.NO_SUCH);
        Check.due("ofWord: no word -1", book.ofWord(-1, 0), SyllableBook.NO_SUCH);
        Check.due("ofWord: word ahead of what", book.ofWord(3, 6), SyllableBook.NO_SUCH);
        SyllableBook unseen = Check.book("", "abcdefabcdef 99");
        Check.due("ofWord: all unseen", unseen.ofWord(0, 3), 12);
        Check.due("ofWord: the greatest cost", unseen.ofWord(0, 4), 24 * 99);
        SyllableBook most = Check.book("aa 1,aaa 1,aaaa 1", "aaaaaaaaaaaa 1");
        Check.due("ofWord: the most cuts", most.ofWord(0, 5), 1490);
        Check.due("ofWord: a piece of a letter makes no more cuts", withPiece(most, "a"), 1490);
    }

    private static int withPiece(SyllableBook book, String text) {
        Check.piece(book, text, 5);
        return book.ofWord(0, 5);
    }

    private static void lettersOfWords() {
        SyllableBook book = Check.book("", THREE_WORDS);
        Check.same("letter: of the first", Check.letters(book, 0), "abab");
        Check.same("letter: of the second", Check.letters(book, 1), "fedcba");
        Check.due("letter: f", book.letter(1, 0), 5);
        Check.due("letter: a", book.letter(1, 5), 0);
        Check.due("letter: behind the last", book.letter(1, 6), SyllableBook.NO_SUCH);
        Check.due("letter: -1", book.letter(1, -1), SyllableBook.NO_SUCH);
        Check.due("letter: no word 3", book.letter(3, 0), SyllableBook.NO_SUCH);
        Check.due("letter: no word -1", book.letter(-1, 0), SyllableBook.NO_SUCH);
        Check.due("letter: greatest place", book.letter(0, Integer.MAX_VALUE), SyllableBook.NO_SUCH);
        Check.due("letter: least place", book.letter(0, Integer.MIN_VALUE), SyllableBook.NO_SUCH);
    }
}
