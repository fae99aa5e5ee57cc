/** Promises 8 to 10, 19 and 20: grow, tune, shrink, growing, least. */
public final class GrowTest {
    private static final String SIXTEEN = "a 1,b 1,c 1,d 1,e 1,f 1,aa 1,bb 1,cc 1,dd 1,ee 1,ff 1,aaa 1,bbb 1,ccc 1,abcd 1";

    public static void main(String[] args) {
        growths();
        growErrors();
        growing();
        tuning();
        shrinking();
        leastPiece();
        Check.finish("GrowTest");
    }

    /** What grows by growing's word, and that grow makes it so. */
    private static void grows(String pieces, String words, String text, int times, int weight) {
        SyllableBook book = Check.book(pieces, words);
        String name = "by " + pieces + " in " + words;
        int number = book.count(0);
        Check.same("growing: text " + name, Check.growingText(book), text);
        Check.due("growing: letters " + name, book.growing(0), text.length());
        Check.due("growing: times " + name, book.growing(1), times);
        Check.due("growing: weight " + name, book.growing(2), weight);
        Check.due("growing: changes nothing " + name, book.count(0), number);
        Check.due("grow: number " + name, book.grow(), number);
        Check.same("grow: text " + name, Check.pieceText(book, number), text);
        Check.due("grow: weight " + name, book.ofPiece(number, 1), weight);
    }

    private static void growths() {
        grows("", "ab 1", "ab", 1, 1);
        // the one that stands so the most often, counted with the counts
        grows("", "abab 1,cd 1", "ab", 2, 1);
        grows("", "abab 1,cd 3", "cd", 3, 1);
        grows("", "ef 1,ab 1,ef 2,ab 1", "ef", 3, 1);
        // overlapping neighbours count each
        grows("", "aaaa 2", "aa", 6, 1);
        // of several the shortest one, of these the first one by the alphabet
        grows("ef 2", "aefb 1,cd 1", "cd", 1, 1);
        grows("", "fa 1,bc 1,bb 1", "bb", 1, 1);
        grows("fb 2", "fba 1,fbfb 1", "fba", 1, 1);
        grows("ab 2,cd 2", "cdab 1,abcd 1", "abcd", 1, 2);
        // it counts in every word, and wherever it stands in it
        grows("ab 3,bc 3", "abc 2,dabc 1", "abc", 3, 1);
        grows("a 3,ab 9,bc 4", "abcef 1,aabc 1", "abc", 2, 3);
        grows("aa 4,bb 6", "aabb 1,caabb 9", "aabb", 10, 4);
        // at most 4 letters together, and no piece of the book
        grows("abc 2,def 2", "abcdefa 1", "defa", 1, 1);
        grows("ab 1,a 9,b 9", "abc 1", "bc", 1, 1);
        // the lesser weight of both parts, an unseen one has 1
        grows("ab 7,cd 5", "abcd 1", "abcd", 1, 5);
        grows("ab 5,cd 7", "abcd 1", "abcd", 1, 5);
        grows("ab 5", "abc 1", "abc", 1, 1);
        // 36 texts stand there, and the last one the most often
        grows("", "abacadaeafa 1,bbcbdbebfb 1,ccdcecfcc 1,ddedfddd 1,eefee 1,fff 3", "ff", 6, 1);
        SyllableBook book = Check.book("", "abc 3");
        book.grow();
        Check.due("grow: is a change", book.count(7), 2);
        Check.due("grow: once more", book.grow(), 1);
        Check.same("grow: grows on", Check.contents(book), "ab 1,abc 1, /abc 3,");
        Check.due("grow: no more", book.grow(), SyllableBook.NOT_POSSIBLE);
        Check.due("grow: an error is no change", book.count(7), 3);
        Check.word(book, "def", 1);
        Check.fill(book, "xy");
        book.grow();
        Check.due("grow: leaves the pad", book.count(6), 2);
    }

    private static void growErrors() {
        Check.due("grow: empty book, no words", new SyllableBook().grow(), SyllableBook.NOT_POSSIBLE);
        Check.due("grow: words of a letter", Check.book("", "a 1,b 2").grow(), SyllableBook.NOT_POSSIBLE);
        // aa|b|b: aab and bb are pieces already
        Check.due("grow: pieces already", Check.book("aab 4,b 4,aa 5,bb 6", "aabb 1").grow(), SyllableBook.NOT_POSSIBLE);
        Check.due("grow: too long together", Check.book("abc 2,def 2", "abcdef 1").grow(), SyllableBook.NOT_POSSIBLE);
        SyllableBook full = Check.book(SIXTEEN, "fe 1");
        String before = Check.everything(full);
        Check.due("grow: 16 pieces", full.grow(), SyllableBook.TOO_MANY);
        Check.due("grow: 16 pieces, no words", Check.book(SIXTEEN, "").grow(), SyllableBook.TOO_MANY);
        Check.same("grow: an error changes nothing", Check.everything(full), before);
        full.drop(15);
        Check.due("grow: the 16th", full.grow(), 15);
        Check.same("grow: the 16th is fe", Check.pieceText(full, 15), "fe");
    }

    private static void growing() {
        SyllableBook book = Check.book("", "ab 2");
        Check.due("growing: letter a", book.growing(3), 0);
        Check.due("growing: letter b", book.growing(4), 1);
        Check.due("growing: behind the last", book.growing(5), SyllableBook.NONE);
        Check.due("growing: far behind the last", book.growing(6), SyllableBook.NONE);
        Check.due("growing: what 7", book.growing(7), SyllableBook.BAD_VALUE);
        Check.due("growing: what -1", book.growing(-1), SyllableBook.BAD_VALUE);
        Check.due("growing: greatest what", book.growing(Integer.MAX_VALUE), SyllableBook.BAD_VALUE);
        SyllableBook empty = new SyllableBook();
        for (int what = 0; what <= 6; what++) {
            Check.due("growing: no text, what " + what, empty.growing(what), SyllableBook.NONE);
        }
        Check.due("growing: what ahead of no text", empty.growing(7), SyllableBook.BAD_VALUE);
        Check.due("growing: what -1 ahead of no text", empty.growing(-1), SyllableBook.BAD_VALUE);
        // That the book is full is an error of grow, but none that growing names: the text is told.
        Check.due("growing: 16 pieces", Check.book(SIXTEEN, "fe 3").growing(1), 3);
    }

    private static void tuning() {
        // b: a 2400 + 400, ab 3600 + 600, b 2400 + 400, f 0
        SyllableBook book = Check.book("a 2,ab 3,b 6,f 1", "abab 3,abc 1");
        book.weigh(2, 1);
        Check.due("tune: b of a", book.ofPiece(0, 8), 2800);
        Check.due("tune: b of ab", book.ofPiece(1, 8), 4200);
        Check.due("tune: how many have another weight", book.tune(), 3);
        Check.same("tune: 1 + 8 * b / the greatest b", Check.contents(book), "a 6,ab 9,b 6,f 1, /abab 3,abc 1,");
        Check.due("tune: is a change", book.count(7), 6);
        book.undo();
        Check.same("tune: undone", Check.contents(book), "a 2,ab 3,b 1,f 1, /abab 3,abc 1,");
        SyllableBook wordless = Check.book("a 1,b 5,c 9", "");
        Check.due("tune: no words, all to 1", wordless.tune(), 2);
        Check.same("tune: no words", Check.contents(wordless), "a 1,b 1,c 1, /");
        Check.due("tune: nothing is different", wordless.tune(), 0);
        Check.due("tune: is a change all the same", wordless.count(7), 5);
        SyllableBook unused = Check.book("e 4,ef 1", "abc 3");
        Check.due("tune: the greatest b is 0", unused.tune(), 1);
        Check.same("tune: all to 1", Check.contents(unused), "e 1,ef 1, /abc 3,");
        SyllableBook empty = new SyllableBook();
        Check.due("tune: empty book", empty.tune(), 0);
        Check.due("tune: empty book, a change", empty.count(7), 1);
        // the shares are rounded down before they are multiplied: a is 333 each, 3 * 333 = 999
        SyllableBook rounded = Check.book("a 1,ab 2", "ab 3");
        Check.due("tune: b of rounded shares", rounded.ofPiece(0, 8), 999);
        Check.due("tune: b of rounded shares, ab", rounded.ofPiece(1, 8), 1998);
        Check.due("tune: rounded", rounded.tune(), 2);
        Check.same("tune: rounded weights", Check.contents(rounded), "a 5,ab 9, /ab 3,");
        SyllableBook unasked = Check.book("a 1,ab 2", "ab 3");
        Check.due("tune: nothing asked ahead of it", unasked.tune(), 2);
        Check.same("tune: nothing asked ahead of it", Check.contents(unasked), "a 5,ab 9, /ab 3,");
        // abcd 1 of 2 cuts, a to d in the other one; fe never
        SyllableBook full = Check.book(SIXTEEN, "abcd 1");
        full.weigh(4, 7);
        Check.due("tune: 16 pieces", full.tune(), 6);
        Check.due("tune: the 16th piece", full.ofPiece(15, 1), 9);
        Check.due("tune: the first of 16", full.ofPiece(0, 1), 9);
        Check.due("tune: the fifth of 16", full.ofPiece(4, 1), 1);
        SyllableBook greatest = Check.book("a 9,b 1", String.join(",",
                java.util.Collections.nCopies(8, "aaaaaaaaaaaa 99")));
        Check.due("tune: the greatest b", greatest.ofPiece(0, 8), 8 * 99 * 12000);
        Check.due("tune: by the greatest b", greatest.tune(), 0);
    }

    private static void shrinks(String pieces, String words, int size, int dropped, String left) {
        SyllableBook book = Check.book(pieces, words);
        String name = "shrink: " + pieces + " in " + words + " to " + size;
        Check.due(name, book.shrink(size), dropped);
        Check.same(name, Check.contents(book).split(" /")[0], left);
    }

    private static void shrinking() {
        shrinks("a 1,b 2", "ab 1", 2, 0, "a 1,b 2,");
        shrinks("a 1,b 2", "ab 1", 16, 0, "a 1,b 2,");
        shrinks("a 1,b 2", "ab 1", 0, 2, "");
        // the least loss: b stands once, a twice
        shrinks("a 1,b 2", "aab 1", 1, 1, "a 1,");
        shrinks("b 1,a 9", "aab 1", 1, 1, "a 9,");
        // of several the one with the lowest weight, of these the last one
        shrinks("a 3,b 2,c 5", "", 2, 1, "a 3,c 5,");
        shrinks("a 3,b 2,c 5,d 2", "", 3, 1, "a 3,b 2,c 5,");
        shrinks("a 3,b 2,c 5,d 2", "", 2, 2, "a 3,c 5,");
        shrinks("a 2,b 2,c 2", "", 1, 2, "a 2,");
        // a loss below 0 is less than none
        shrinks("aa 9,aaa 1,f 1", "aaa 5", 2, 1, "aaa 1,f 1,");
        // A|bc costs 4 * 3; without bc abc costs 4 * 1: so bc goes first
        shrinks("ab 2,abc 2,bc 3", "abc 4", 2, 1, "ab 2,abc 2,");
        // the losses are told anew each time: once aa is gone, aaa bears the word and b is the one to go
        shrinks("aaa 1,b 2,aa 9", "aaa 5,b 1", 2, 1, "aaa 1,b 2,");
        shrinks("aaa 1,b 2,aa 9", "aaa 5,b 1", 1, 2, "aaa 1,");
        SyllableBook book = Check.book("a 1,b 2,c 3,d 4,e 5,f 6", "");
        Check.due("shrink: by four", book.shrink(2), 4);
        Check.due("shrink: is one change", book.count(7), 6);
        Check.due("shrink: undone at once", book.undo(), 5);
        Check.same("shrink: undone", Check.contents(book), "a 1,b 2,c 3,d 4,e 5,f 6, /");
        Check.due("shrink: drops none", book.shrink(6), 0);
        Check.due("shrink: is a change all the same", book.count(7), 6);
        Check.due("shrink: empty book", new SyllableBook().shrink(0), 0);
        Check.due("shrink: 16 to 0", Check.book(SIXTEEN, "abcd 9,fe 1").shrink(0), 16);
        Check.due("shrink: 16 to 16", Check.book(SIXTEEN, "").shrink(16), 0);
    }

    private static void leastPiece() {
        Check.due("least: no pieces", new SyllableBook().least(), SyllableBook.NONE);
        Check.due("least: the only one", Check.book("a 9", "a 9").least(), 0);
        Check.due("least: least loss", Check.book("b 1,a 9,c 9", "aabcc 1").least(), 0);
        Check.due("least: lowest weight", Check.book("a 3,b 2,c 5", "").least(), 1);
        Check.due("least: the last one", Check.book("a 3,b 2,c 5,d 2,e 3", "").least(), 3);
        Check.due("least: the loss goes ahead of the weight", Check.book("a 1,b 9", "ac 1").least(), 1);
        Check.due("least: a loss below 0", Check.book("f 1,aa 9,aaa 1", "aaa 5").least(), 1);
        SyllableBook book = Check.book("a 1,b 2", "ab 1");
        String before = Check.everything(book);
        book.least();
        Check.same("least: changes nothing", Check.everything(book), before);
    }
}
