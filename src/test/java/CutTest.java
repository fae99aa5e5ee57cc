/** Promises 14 to 18: product, part, share, count, costWith; and the terms they rest on. */
public final class CutTest {
    public static void main(String[] args) {
        bestCuts();
        products();
        parts();
        shares();
        numbers();
        costsWith();
        Check.finish("CutTest");
    }

    private static void best(String pieces, String word, String cut) {
        Check.same("best cut of " + word + " by " + pieces, Check.cut(Check.book(pieces, word + " 1"), 0), cut);
    }

    private static void bestCuts() {
        best("", "abc", "A|B|C");
        best("ab 1", "abc", "ab|C");
        best("a 9,b 9", "ab", "a|b");
        best("ab 9,bc 8", "abc", "ab|C");
        best("ab 8,bc 9", "abc", "A|bc");
        // the greatest product goes ahead of the fewest parts
        best("abc 1,a 2", "abc", "a|B|C");
        best("abcd 8,ab 3", "abcd", "abcd");
        best("abcd 8,ab 3,cd 3", "abcd", "ab|cd");
        // the same product: the fewest parts
        best("abcd 9,ab 3,cd 3", "abcd", "abcd");
        best("a 1,b 1,ab 1", "ab", "ab");
        best("aa 4,a 2", "aaaa", "aa|aa");
        // the same product and number of parts: the longest first part, then the longest second one
        best("ab 2,bc 2", "abc", "ab|C");
        best("ab 3,abc 3,cd 1,d 1", "abcd", "abc|d");
        best("aaa 2,aa 2", "aaaaa", "aaa|aa");
        best("aa 1,aaa 1", "aaaaaaa", "aaa|aaa|A");
        best("a 1,bc 2,bcd 2,de 2,e 2", "abcde", "a|bcd|e");
        best("aaaa 1,aaa 1", "aaaaaa", "aaa|aaa");
        // the longest first part comes ahead of the longest second one
        best("aa 1,aaaa 1", "aaaaaaa", "aaaa|aa|A");
        best("aaaa 9", "aaaaaaaaaaaa", "aaaa|aaaa|aaaa");
        best("f 1", "abcdefabcdef", "A|B|C|D|E|f|A|B|C|D|E|f");
    }

    private static void products() {
        SyllableBook book = Check.book("a 2,ab 3,b 1", "abab 3,abc 1,f 1");
        Check.due("product: total", book.product(0, 0), 25);
        Check.due("product: best", book.product(0, 1), 9);
        Check.due("product: total of another", book.product(1, 0), 5);
        Check.due("product: an unseen letter", book.product(2, 0), 1);
        Check.due("product: best of an unseen letter", book.product(2, 1), 1);
        Check.due("product: no word 3", book.product(3, 0), -1);
        Check.due("product: no word -1", book.product(-1, 0), -1);
        Check.due("product: what 2", book.product(0, 2), -2);
        Check.due("product: what -1", book.product(0, -1), -2);
        Check.due("product: word ahead of what", book.product(3, 2), -1);
        SyllableBook great = Check.book("a 9,aa 9,aaa 9,aaaa 9", "aaaaaaaaaaaa 1");
        Check.due("product: the greatest total", great.product(0, 0), 899343046170L);
        Check.due("product: the greatest best", great.product(0, 1), 282429536481L);
        Check.due("product: no words", new SyllableBook().product(0, 0), -1);
    }

    private static void parts() {
        SyllableBook book = Check.book("cd 2,ab 3", "abecd 1,f 2");
        Check.due("part: first piece", book.part(0, 0, 0), 1);
        Check.due("part: first place", book.part(0, 0, 1), 0);
        Check.due("part: first letters", book.part(0, 0, 2), 2);
        Check.due("part: unseen", book.part(0, 1, 0), SyllableBook.NONE);
        Check.due("part: place of the unseen", book.part(0, 1, 1), 2);
        Check.due("part: letters of the unseen", book.part(0, 1, 2), 1);
        Check.due("part: last piece", book.part(0, 2, 0), 0);
        Check.due("part: last place", book.part(0, 2, 1), 3);
        Check.due("part: behind the last", book.part(0, 3, 0), SyllableBook.NO_SUCH);
        Check.due("part: -1", book.part(0, -1, 0), SyllableBook.NO_SUCH);
        Check.due("part: greatest", book.part(0, Integer.MAX_VALUE, 0), SyllableBook.NO_SUCH);
        Check.due("part: no word 2", book.part(2, 0, 0), SyllableBook.NO_SUCH);
        Check.due("part: no word -1", book.part(-1, 0, 0), SyllableBook.NO_SUCH);
        Check.due("part: what 3", book.part(0, 0, 3), SyllableBook.BAD_VALUE);
        Check.due("part: what -1", book.part(0, 0, -1), SyllableBook.BAD_VALUE);
        Check.due("part: part ahead of what", book.part(0, 3, 3), SyllableBook.NO_SUCH);
        Check.due("part: word ahead of what", book.part(2, 0, 3), SyllableBook.NO_SUCH);
        SyllableBook letters = Check.book("", "abcdefabcdef 1");
        Check.due("part: the twelfth", letters.part(0, 11, 1), 11);
        Check.due("part: no thirteenth", letters.part(0, 12, 1), SyllableBook.NO_SUCH);
    }

    private static void shares() {
        SyllableBook book = Check.book("a 2,ab 3,b 1,f 4", "abab 3,abc 1");
        Check.due("share: a", book.share(0, 0), 800);
        Check.due("share: ab", book.share(0, 1), 1200);
        Check.due("share: b", book.share(0, 2), 800);
        Check.due("share: not in the word", book.share(0, 3), 0);
        Check.due("share: in another word", book.share(1, 1), 600);
        Check.due("share: no word 2", book.share(2, 0), SyllableBook.NO_SUCH);
        Check.due("share: no word -1", book.share(-1, 0), SyllableBook.NO_SUCH);
        Check.due("share: no piece 4", book.share(0, 4), SyllableBook.NO_SUCH);
        Check.due("share: no piece -1", book.share(0, -1), SyllableBook.NO_SUCH);
        // aab: a|a|B 4, aa|B 3; the share is 1000 * 8 / 7, rounded down
        SyllableBook rounded = Check.book("a 2,aa 3", "aab 1");
        Check.due("share: twice in a cut, rounded down", rounded.share(0, 0), 1142);
        Check.due("share: rounded down", rounded.share(0, 1), 428);
        // aaa: aa|A 2, A|aa 2, A|A|A 1: overlapping places count each in its cuts
        SyllableBook overlapping = Check.book("aa 2", "aaa 1");
        Check.due("share: overlapping places", overlapping.share(0, 0), 800);
        SyllableBook greatest = Check.book("a 9", "aaaaaaaaaaaa 1");
        Check.due("share: the greatest", greatest.share(0, 0), 12000);
        SyllableBook many = Check.book("a 9,aa 9,aaa 9,aaaa 9", "aaaaaaaaaaaa 1");
        Check.due("share: of great products", many.share(0, 0), 9902);
        Check.due("share: of great products, small", many.share(0, 3), 7);
    }

    private static void numbers() {
        SyllableBook book = Check.book("a 2,ab 3,b 1", "abab 3,abc 2");
        Check.fill(book, "xyz");
        Check.due("count: pieces", book.count(0), 3);
        Check.due("count: words", book.count(1), 2);
        Check.due("count: cost of all", book.count(2), 3 * 2 + 2 * 3);
        Check.due("count: letters of all", book.count(3), 3 * 4 + 2 * 3);
        Check.due("count: parts of all", book.count(4), 3 * 2 + 2 * 2);
        Check.due("count: unseen of all", book.count(5), 2);
        Check.due("count: the pad", book.count(6), 3);
        Check.due("count: changes to undo", book.count(7), 5);
        Check.due("count: what 8", book.count(8), SyllableBook.BAD_VALUE);
        Check.due("count: what -1", book.count(-1), SyllableBook.BAD_VALUE);
        Check.due("count: greatest what", book.count(Integer.MAX_VALUE), SyllableBook.BAD_VALUE);
        SyllableBook uneven = Check.book("ab 3", "abcdef 2,ab 5");
        Check.due("count: parts of uneven words", uneven.count(4), 2 * 5 + 5);
        Check.due("count: unseen of uneven words", uneven.count(5), 2 * 4);
        String word = "abcdefabcdef 99";
        SyllableBook full = Check.book("", String.join(",", java.util.Collections.nCopies(8, word)));
        Check.due("count: the greatest cost", full.count(2), 8 * 24 * 99);
        Check.due("count: the most letters", full.count(3), 8 * 12 * 99);
        Check.due("count: the most parts", full.count(4), 8 * 12 * 99);
        Check.due("count: the most unseen", full.count(5), 8 * 12 * 99);
        Check.due("count: at most 6 to undo", full.count(7), 6);
    }

    private static void costsWith() {
        SyllableBook book = Check.book("abc 2,def 2", "abcabc 2,ab 1");
        Check.due("costWith: now", book.count(2), 2 * 2 + 4);
        Check.fill(book, "c");
        String before = Check.everything(book);
        Check.due("costWith: a light letter", book.costWith(1), 8);
        Check.due("costWith: a heavy letter", book.costWith(9), 2 * 10 + 4);
        Check.due("costWith: in between, no more than the piece bears", book.costWith(2), 8);
        Check.same("costWith: changes nothing, the pad neither", Check.everything(book), before);
        book.wipe();
        Check.fill(book, "ab");
        Check.due("costWith: a piece for a word", book.costWith(1), 2 * 2 + 1);
        Check.due("costWith: the pad is still there", book.piece(1), 2);
        Check.due("costWith: as it told", book.count(2), 5);
        SyllableBook wordless = new SyllableBook();
        Check.fill(wordless, "abcd");
        Check.due("costWith: no words", wordless.costWith(9), 0);
        String fifteen = "a 1,b 1,c 1,d 1,e 1,f 1,aa 1,bb 1,cc 1,dd 1,ee 1,ff 1,aaa 1,bbb 1,ccc 1";
        SyllableBook nearlyFull = Check.book(fifteen, "abcd 2");
        Check.fill(nearlyFull, "abcd");
        Check.due("costWith: a 16th piece", nearlyFull.costWith(1), 2);
    }
}
