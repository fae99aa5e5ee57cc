import java.util.Collections;
import java.util.List;

/** The edges of promises 11 to 20: what there is, and what if. */
public final class QuestionsEdgeTest {
    private static final int[] FAR = {-1, -7, 256, 65536, Edge.LEAST, Edge.LEAST + 1, Edge.GREATEST};

    public static void main(String[] args) {
        ofPiece();
        ofWord();
        letter();
        product();
        part();
        share();
        count();
        costWith();
        growing();
        least();
        questionsChangeNothing();
        Check.finish("QuestionsEdgeTest");
    }

    // ---- promise 11

    private static void ofPiece() {
        Edge.promise(11, "0 how many letters it has, 1 its weight");
        SyllableBook book = Check.book("f 9,abcd 1", "");
        Edge.due("1 letter", book.ofPiece(0, 0), 1);
        Edge.due("4 letters", book.ofPiece(1, 0), 4);
        Edge.due("weight 9", book.ofPiece(0, 1), 9);
        Edge.due("weight 1", book.ofPiece(1, 1), 1);
        ofPieceLetters();
        ofPieceTimes();
        ofPieceLoss();
        ofPieceB();
        Edge.promise(11, "NO_SUCH if there is no such piece");
        Edge.due("the last of few", Edge.few("").get().ofPiece(2, 0), 4);
        Edge.refused("behind the last of few", Edge.few("ab"), b -> b.ofPiece(3, 0), Edge.NO_SUCH);
        Edge.due("the last of 16", Edge.full("").get().ofPiece(15, 0), 4);
        Edge.refused("behind the last of 16", Edge.full("ab"), b -> b.ofPiece(16, 0), Edge.NO_SUCH);
        Edge.refused("the first of none", Edge.empty("ab"), b -> b.ofPiece(0, 0), Edge.NO_SUCH);
        for (int piece : FAR) {
            Edge.refused("piece " + piece, Edge.few("ab"), b -> b.ofPiece(piece, 0), Edge.NO_SUCH);
        }
        Edge.promise(11, "BAD_VALUE if what is out of range");
        Edge.due("what 0", Edge.few("").get().ofPiece(0, 0), 1);
        // abab: ab|ab 9, ab|a|B 6, a|B|ab 6, a|B|a|B 4, so 20 of 25, three times
        Edge.due("what 8", Edge.few("").get().ofPiece(0, 8), 2400);
        Edge.refused("what 9", Edge.few("ab"), b -> b.ofPiece(0, 9), Edge.BAD_VALUE);
        for (int what : FAR) {
            Edge.refused("what " + what, Edge.few("ab"), b -> b.ofPiece(0, what), Edge.BAD_VALUE);
        }
        Edge.promise(11, "NO_SUCH if there is no such piece; BAD_VALUE if what is out of range.");
        Edge.refused("both", Edge.few("ab"), b -> b.ofPiece(3, 9), Edge.NO_SUCH);
        Edge.refused("both, below", Edge.few("ab"), b -> b.ofPiece(-1, -1), Edge.NO_SUCH);
    }

    private static void ofPieceLetters() {
        Edge.promise(11, "2 to 5 its letters, 0 (a) to 5 (f) (NONE behind the last one)");
        String[] texts = {"f", "ef", "def", "cdef"};
        SyllableBook book = Check.book("f 1,ef 1,def 1,cdef 1", "");
        for (int piece = 0; piece < 4; piece++) {
            for (int place = 0; place < 4; place++) {
                int letter = place <= piece ? texts[piece].charAt(place) - 'a' : Edge.NONE;
                Edge.due("letter " + place + " of " + texts[piece], book.ofPiece(piece, 2 + place), letter);
            }
        }
        Edge.due("a", Check.book("a 1", "").ofPiece(0, 2), 0);
        Edge.due("the fourth, a", Check.book("fffa 1", "").ofPiece(0, 5), 0);
        SyllableBook grown = Check.book("ab 1", "abef 1");
        grown.grow();
        Edge.due("of one that grew: the last", grown.ofPiece(1, 3), 5);
        Edge.due("of one that grew: behind the last", grown.ofPiece(1, 4), Edge.NONE);
    }

    private static void ofPieceTimes() {
        Edge.promise(11, "6 how often it is a part of the best cuts (each time counts with the count of the word)");
        Edge.due("no words", Check.book("a 1", "").ofPiece(0, 6), 0);
        Edge.due("in no word", Check.book("a 1", "b 99").ofPiece(0, 6), 0);
        Edge.due("in a word, but not in its best cut", Check.book("a 1,ab 1", "ab 99").ofPiece(0, 6), 0);
        Edge.due("once, count 1", Check.book("a 1", "ab 1").ofPiece(0, 6), 1);
        Edge.due("once, count 99", Check.book("a 1", "ab 99").ofPiece(0, 6), 99);
        Edge.due("twice and once", Check.book("a 1", "aba 5,a 7").ofPiece(0, 6), 17);
        String words = String.join(",", Collections.nCopies(8, "ffffffffffff 99"));
        Edge.due("the most", Check.book("f 1", words).ofPiece(0, 6), 12 * 8 * 99);
    }

    private static void ofPieceLoss() {
        Edge.promise(11, "7 its loss, and 100000");
        Edge.due("0", Check.book("a 1", "").ofPiece(0, 7), 100000);
        Edge.due("1", Check.book("a 1", "a 1").ofPiece(0, 7), 100001);
        Edge.due("-1", Check.book("aa 9,aaa 1,a 1", "aaa 1").ofPiece(0, 7), 99999);
        SyllableBook book = Check.book("ab 2,c 1", "ab 3,cc 5");
        Edge.due("of the first", book.ofPiece(0, 7), 100000 + 3 * 3);
        Edge.due("of the second", book.ofPiece(1, 7), 100000 + 5 * 2);
        Edge.due("all is as it was: cost", book.count(2), 3 + 10);
        Edge.due("all is as it was: pieces", book.count(0), 2);
    }

    private static void ofPieceB() {
        Edge.promise(11, "8 its b, as told for tune()");
        Edge.due("no words", Check.book("a 1", "").ofPiece(0, 8), 0);
        Edge.due("in no word", Check.book("a 1", "b 99").ofPiece(0, 8), 0);
        Edge.due("the only cut", Check.book("a 1", "a 1").ofPiece(0, 8), 1000);
        Edge.due("not in the best cut", Check.book("a 1,ab 1", "ab 99").ofPiece(0, 8), 99 * 500);
        Edge.due("two words", Check.book("a 1,ab 1", "ab 3,aa 2").ofPiece(0, 8), 3 * 500 + 2 * 2000);
        String words = String.join(",", Collections.nCopies(8, "ffffffffffff 99"));
        Edge.due("the greatest", Check.book("f 9", words).ofPiece(0, 8), 12000 * 8 * 99);
    }

    // ---- promise 12

    private static void ofWord() {
        Edge.promise(12, "0 how many letters it has, 1 its count, 2 the parts of its best cut, 3 the unseen ones of these, "
                + "4 its cost, 5 how many cuts it has");
        int[][] due = {{1, 1, 1, 1, 2, 1}, {12, 99, 12, 12, 24 * 99, 1}, {4, 7, 1, 0, 7, 2}, {5, 2, 2, 1, 6, 2}};
        SyllableBook book = Check.book("abcd 3", "f 1,abcfabcfabcf 99,abcd 7,abcde 2");
        for (int word = 0; word < due.length; word++) {
            for (int what = 0; what <= 5; what++) {
                Edge.due("word " + word + ", " + what, book.ofWord(word, what), due[word][what]);
            }
        }
        Edge.due("the most cuts", Check.book("aa 1,aaa 1,aaaa 1", "aaaaaaaaaaaa 1").ofWord(0, 5), 1490);
        Edge.promise(12, "NO_SUCH if there is no such word");
        Edge.due("the last of few", Edge.few("").get().ofWord(1, 0), 2);
        Edge.refused("behind the last of few", Edge.few("ab"), b -> b.ofWord(2, 0), Edge.NO_SUCH);
        Edge.due("the last of 8", Edge.full("").get().ofWord(7, 0), 12);
        Edge.refused("behind the last of 8", Edge.full("ab"), b -> b.ofWord(8, 0), Edge.NO_SUCH);
        Edge.refused("the first of none", Edge.empty("ab"), b -> b.ofWord(0, 0), Edge.NO_SUCH);
        for (int word : FAR) {
            Edge.refused("word " + word, Edge.few("ab"), b -> b.ofWord(word, 0), Edge.NO_SUCH);
        }
        Edge.promise(12, "BAD_VALUE if what is out of range");
        Edge.refused("what 6", Edge.few("ab"), b -> b.ofWord(0, 6), Edge.BAD_VALUE);
        for (int what : FAR) {
            Edge.refused("what " + what, Edge.few("ab"), b -> b.ofWord(0, what), Edge.BAD_VALUE);
        }
        Edge.promise(12, "NO_SUCH if there is no such word; BAD_VALUE if what is out of range.");
        Edge.refused("both", Edge.few("ab"), b -> b.ofWord(2, 6), Edge.NO_SUCH);
        Edge.refused("both, below", Edge.few("ab"), b -> b.ofWord(-1, -1), Edge.NO_SUCH);
    }

    // ---- promise 13

    private static void letter() {
        Edge.promise(13, "Returns 0 (a) to 5 (f)");
        SyllableBook book = Check.book("", "f 1,abcdeffedcba 1");
        Edge.due("the only one", book.letter(0, 0), 5);
        for (int place = 0; place < 12; place++) {
            Edge.due("place " + place, book.letter(1, place), "abcdeffedcba".charAt(place) - 'a');
        }
        Edge.promise(13, "NO_SUCH if there is no such word or letter");
        Edge.refused("place 1 of 1", () -> Check.book("", "f 1,ab 1"), b -> b.letter(0, 1), Edge.NO_SUCH);
        Edge.refused("place 12 of 12", () -> Check.book("", "abcdeffedcba 1,ab 1"), b -> b.letter(0, 12), Edge.NO_SUCH);
        Edge.refused("place 4 of 4", Edge.few("ab"), b -> b.letter(0, 4), Edge.NO_SUCH);
        Edge.refused("word 2 of 2", Edge.few("ab"), b -> b.letter(2, 0), Edge.NO_SUCH);
        Edge.due("word 7 of 8", Edge.full("").get().letter(7, 11), 5);
        Edge.refused("word 8 of 8", Edge.full("ab"), b -> b.letter(8, 0), Edge.NO_SUCH);
        Edge.refused("word 0 of none", Edge.empty("ab"), b -> b.letter(0, 0), Edge.NO_SUCH);
        for (int far : FAR) {
            Edge.refused("word " + far, Edge.few("ab"), b -> b.letter(far, 0), Edge.NO_SUCH);
            Edge.refused("place " + far, Edge.few("ab"), b -> b.letter(0, far), Edge.NO_SUCH);
        }
        // A word that is shorter than the one that stood there ahead of it ends where it ends.
        SyllableBook shorter = Check.book("", "abcdef 1");
        shorter.forget(0);
        Check.word(shorter, "fe", 1);
        Edge.due("the last of a shorter one", shorter.letter(0, 1), 4);
        Edge.due("behind the last of a shorter one", shorter.letter(0, 2), Edge.NO_SUCH);
    }

    // ---- promise 14

    private static void product() {
        Edge.promise(14, "0 the total, 1 the product of the best cut");
        Edge.due("the least total", Check.book("", "f 1").product(0, 0), 1);
        Edge.due("the least product", Check.book("", "f 1").product(0, 1), 1);
        SyllableBook greatest = Check.book("a 9,aa 9,aaa 9,aaaa 9", "aaaaaaaaaaaa 99");
        Edge.due("the greatest total", greatest.product(0, 0), 899343046170L);
        Edge.due("the greatest product", greatest.product(0, 1), 282429536481L);
        // 9 * 9 * .. * 9 of ten, and of eleven letters: below and above what an int holds
        Edge.due("9 to the power of 9", Check.book("a 9", "aaaaaaaaa 1").product(0, 1), 387420489L);
        Edge.due("9 to the power of 10", Check.book("a 9", "aaaaaaaaaa 1").product(0, 1), 3486784401L);
        Edge.due("9 to the power of 10, total", Check.book("a 9", "aaaaaaaaaa 1").product(0, 0), 3486784401L);
        Edge.promise(14, "-1 if there is no such word");
        Edge.due("the last of few", Edge.few("").get().product(1, 1), 1);
        Edge.refused("behind the last of few", Edge.few("ab"), b -> b.product(2, 0), -1);
        Edge.due("the last of 8", Edge.full("").get().product(7, 1), 518400);
        Edge.refused("behind the last of 8", Edge.full("ab"), b -> b.product(8, 1), -1);
        Edge.refused("the first of none", Edge.empty("ab"), b -> b.product(0, 0), -1);
        for (int word : FAR) {
            Edge.refused("word " + word, Edge.few("ab"), b -> b.product(word, 1), -1);
        }
        Edge.promise(14, "-2 if what is neither 0 nor 1");
        Edge.refused("what 2", Edge.few("ab"), b -> b.product(0, 2), -2);
        for (int what : FAR) {
            Edge.refused("what " + what, Edge.few("ab"), b -> b.product(0, what), -2);
        }
        Edge.promise(14, "-1 if there is no such word; -2 if what is neither 0 nor 1.");
        Edge.refused("both", Edge.few("ab"), b -> b.product(2, 2), -1);
        Edge.refused("both, below", Edge.few("ab"), b -> b.product(-1, -1), -1);
    }

    // ---- promise 15

    private static void part() {
        Edge.promise(15, "0 the piece (NONE if it is unseen), 1 the place of its first letter, 2 how many letters it has");
        // abcd|E|f|ab
        int[][] due = {{1, 0, 4}, {Edge.NONE, 4, 1}, {0, 5, 1}, {2, 6, 2}};
        SyllableBook book = Check.book("f 1,abcd 9,ab 9", "abcdefab 1");
        for (int part = 0; part < due.length; part++) {
            for (int what = 0; what <= 2; what++) {
                Edge.due("part " + part + ", " + what, book.part(0, part, what), due[part][what]);
            }
        }
        Edge.due("piece 15 of 16", Check.book("a 1,b 1,c 1,d 1,e 1,f 1,aa 1,bb 1,cc 1,dd 1,ee 1,ff 1,ba 1,ca 1,da 1,abcd 9",
                "abcd 1").part(0, 0, 0), 15);
        Edge.due("the twelfth", Check.book("", "abcdefabcdef 1").part(0, 11, 1), 11);
        Edge.promise(15, "NO_SUCH if there is no such word or part");
        Edge.refused("part 4 of 4", () -> Check.book("f 1,abcd 9,ab 9", "abcdefab 1"), b -> b.part(0, 4, 0), Edge.NO_SUCH);
        Edge.refused("part 1 of 1", () -> Check.book("ab 1", "ab 1,cdef 1"), b -> b.part(0, 1, 0), Edge.NO_SUCH);
        Edge.refused("part 12 of 12", () -> Check.book("", "abcdefabcdef 1"), b -> b.part(0, 12, 2), Edge.NO_SUCH);
        Edge.refused("word 2 of 2", Edge.few("ab"), b -> b.part(2, 0, 0), Edge.NO_SUCH);
        Edge.refused("word 8 of 8", Edge.full("ab"), b -> b.part(8, 0, 0), Edge.NO_SUCH);
        Edge.refused("word 0 of none", Edge.empty("ab"), b -> b.part(0, 0, 0), Edge.NO_SUCH);
        for (int far : FAR) {
            Edge.refused("word " + far, Edge.few("ab"), b -> b.part(far, 0, 0), Edge.NO_SUCH);
            Edge.refused("part " + far, Edge.few("ab"), b -> b.part(0, far, 0), Edge.NO_SUCH);
        }
        Edge.promise(15, "BAD_VALUE if what is out of range");
        Edge.refused("what 3", Edge.few("ab"), b -> b.part(0, 0, 3), Edge.BAD_VALUE);
        Edge.refused("what 3 of an unseen one", Edge.few("ab"), b -> b.part(1, 0, 3), Edge.BAD_VALUE);
        for (int what : FAR) {
            Edge.refused("what " + what, Edge.few("ab"), b -> b.part(0, 0, what), Edge.BAD_VALUE);
        }
        Edge.promise(15, "NO_SUCH if there is no such word or part; BAD_VALUE if what is out of range.");
        Edge.refused("word and what", Edge.few("ab"), b -> b.part(2, 0, 3), Edge.NO_SUCH);
        Edge.refused("part and what", Edge.few("ab"), b -> b.part(0, 2, -1), Edge.NO_SUCH);
        Edge.refused("all", Edge.few("ab"), b -> b.part(-1, -1, -1), Edge.NO_SUCH);
    }

    // ---- promise 16

    private static void share() {
        Edge.promise(16, "Returns the share");
        Edge.due("the least", Check.book("b 9", "a 1").share(0, 0), 0);
        Edge.due("the greatest", Check.book("a 1", "aaaaaaaaaaaa 99").share(0, 0), 12000);
        Edge.due("of great products", Check.book("a 9,aa 9,aaa 9,aaaa 9", "aaaaaaaaaaaa 1").share(0, 0), 9902);
        // 1 of 6562, which is above 0, and rounded down
        Edge.due("just above 0", Check.book("aaab 1,a 9,b 9", "aaab 1").share(0, 0), 0);
        Edge.due("81 of 82", Check.book("a 9,b 9,ab 1", "ab 1").share(0, 0), 987);
        Edge.promise(16, "NO_SUCH if there is no such word or piece");
        Edge.due("the last of both", Edge.few("").get().share(1, 2), 0);
        Edge.refused("word 2 of 2", Edge.few("ab"), b -> b.share(2, 0), Edge.NO_SUCH);
        Edge.refused("piece 3 of 3", Edge.few("ab"), b -> b.share(0, 3), Edge.NO_SUCH);
        Edge.refused("both", Edge.few("ab"), b -> b.share(2, 3), Edge.NO_SUCH);
        Edge.due("the last of 8 and of 16", Math.min(1, Edge.full("").get().share(7, 15)), 1);
        Edge.refused("word 8 of 8", Edge.full("ab"), b -> b.share(8, 15), Edge.NO_SUCH);
        Edge.refused("piece 16 of 16", Edge.full("ab"), b -> b.share(7, 16), Edge.NO_SUCH);
        Edge.refused("none of both", Edge.empty("ab"), b -> b.share(0, 0), Edge.NO_SUCH);
        Edge.refused("a word, but no piece", () -> Check.book("", "a 1"), b -> b.share(0, 0), Edge.NO_SUCH);
        Edge.refused("a piece, but no word", () -> Check.book("a 1", ""), b -> b.share(0, 0), Edge.NO_SUCH);
        for (int far : FAR) {
            Edge.refused("word " + far, Edge.few("ab"), b -> b.share(far, 0), Edge.NO_SUCH);
            Edge.refused("piece " + far, Edge.few("ab"), b -> b.share(0, far), Edge.NO_SUCH);
        }
    }

    // ---- promise 17

    private static void count() {
        Edge.promise(17, "0 pieces, 1 words, 2 the cost of all, 3 letters of all words (each times its count), "
                + "4 parts of all best cuts, 5 unseen parts of these (4, 5: each times the count), "
                + "6 the length of the pad, 7 how many changes can be undone");
        int[] few = {3, 2, 3 * 2 + 99 * 4, 3 * 4 + 99 * 2, 3 * 2 + 99 * 2, 99 * 2, 16, 5};
        SyllableBook book = Edge.few("xxxxxxxxxxxxxxxx").get();
        for (int what = 0; what <= 7; what++) {
            Edge.due("few, " + what, book.count(what), few[what]);
        }
        // ab|C|D|E|F twice, ab five times
        int[] uneven = {1, 2, 2 * 9 + 5, 2 * 6 + 5 * 2, 2 * 5 + 5, 2 * 4, 0, 3};
        SyllableBook unlike = Check.book("ab 3", "abcdef 2,ab 5");
        for (int what = 7; what >= 0; what--) {
            Edge.due("unlike words, " + what, unlike.count(what), uneven[what]);
        }
        int n = 8 * 12 * 99;
        int[] most = {0, 8, 2 * n, n, n, n, 0, 6};
        String words = String.join(",", Collections.nCopies(8, "abcdefabcdef 99"));
        SyllableBook unseen = Check.book("", words);
        SyllableBook seen = Check.book("a 1,b 1,c 1,d 1,e 1,f 1", words);
        for (int what = 0; what <= 7; what++) {
            Edge.due("the most, " + what, unseen.count(what), most[what]);
        }
        Edge.due("no unseen one: cost", seen.count(2), n);
        Edge.due("no unseen one: parts", seen.count(4), n);
        Edge.due("no unseen one", seen.count(5), 0);
        Edge.due("16 pieces", Edge.full("").get().count(0), 16);
        Edge.promise(17, "BAD_VALUE if what is out of range");
        Edge.refused("what 8", Edge.few("ab"), b -> b.count(8), Edge.BAD_VALUE);
        Edge.refused("what 8, empty", Edge.empty(""), b -> b.count(8), Edge.BAD_VALUE);
        for (int what : FAR) {
            Edge.refused("what " + what, Edge.few("ab"), b -> b.count(what), Edge.BAD_VALUE);
        }
    }

    // ---- promise 18

    private static void costWith() {
        Edge.promise(18, "Tells what the cost of all would be with one more piece: the letters of the pad.");
        Edge.due("no words", Edge.empty("a").get().costWith(9), 0);
        SyllableBook book = Check.book("", "abab 3");
        Check.fill(book, "abab");
        Edge.due("a piece of 4 letters", book.costWith(1), 3);
        Edge.due("as it is without", book.count(2), 24);
        SyllableBook letter = Check.book("", "abab 3");
        Check.fill(letter, "b");
        Edge.due("a piece of a letter", letter.costWith(9), 18);
        Edge.unchanged("few", Edge.few("fc"), b -> b.costWith(9));
        Edge.unchanged("empty", Edge.empty("fc"), b -> b.costWith(9));
        Edge.unchanged("full", Edge.full("fc"), b -> b.costWith(9));
        Edge.promise(18, "`weight`: 1 to 9");
        // abc|def of the product 4: C of the weight 1 or 2 breaks none of them, of 3 it does
        for (int weight = 1; weight <= 9; weight++) {
            SyllableBook weighed = Check.book("abc 2,def 2", "abcdef 1");
            Check.fill(weighed, "c");
            Edge.due("weight " + weight, weighed.costWith(weight), weight <= 2 ? 2 : 6);
            Edge.due("as piece makes it, weight " + weight, weighed.piece(weight) * 100 + weighed.count(2),
                    200 + (weight <= 2 ? 2 : 6));
        }
        costWithErrors();
    }

    private static void costWithErrors() {
        Edge.promise(18, "errors as for piece()");
        for (String pad : new String[] {"", "abcde", "aaaaaaaaaaaaaaaa", "g", "`", "A", "abc~", "!abc"}) {
            Edge.refused("BAD_TEXT: " + pad, Edge.few(pad), b -> b.costWith(1), Edge.BAD_TEXT);
        }
        for (int weight : new int[] {0, 10, -1, 257, 65537, Edge.LEAST, Edge.GREATEST}) {
            Edge.refused("BAD_VALUE: weight " + weight, Edge.few("fed"), b -> b.costWith(weight), Edge.BAD_VALUE);
        }
        Edge.refused("TOO_MANY: 16 pieces", Edge.full("fed"), b -> b.costWith(1), Edge.TOO_MANY);
        SyllableBook fifteen = Edge.full("abcd").get();
        int cost = fifteen.count(2);
        fifteen.drop(15);
        Edge.due("15 pieces", fifteen.costWith(7), cost);
        for (String pad : new String[] {"a", "ab", "cdef"}) {
            Edge.refused("NOT_POSSIBLE: " + pad, Edge.few(pad), b -> b.costWith(1), Edge.NOT_POSSIBLE);
        }
        Edge.refused("text, weight", Edge.few("abcde"), b -> b.costWith(0), Edge.BAD_TEXT);
        Edge.refused("text, weight, 16 pieces", Edge.full("g"), b -> b.costWith(10), Edge.BAD_TEXT);
        Edge.refused("weight, 16 pieces", Edge.full("fed"), b -> b.costWith(10), Edge.BAD_VALUE);
        Edge.refused("weight, such a piece", Edge.few("ab"), b -> b.costWith(0), Edge.BAD_VALUE);
        Edge.refused("16 pieces, such a piece", Edge.full("abcd"), b -> b.costWith(9), Edge.TOO_MANY);
    }

    // ---- promise 19

    private static void growing() {
        Edge.promise(19, "0 how many letters it has, 1 how often it stands so, 2 the weight that it would get, "
                + "3 to 6 its letters (NONE behind the last one)");
        int[][] due = {{2, 1, 1, 5, 4, Edge.NONE, Edge.NONE}, {3, 99, 1, 0, 1, 5, Edge.NONE}, {4, 7, 9, 0, 1, 2, 5}};
        SyllableBook[] books = {Check.book("", "fe 1"), Check.book("ab 9", "abf 99"), Check.book("ab 9,cf 9", "abcf 7")};
        for (int i = 0; i < books.length; i++) {
            for (int what = 0; what <= 6; what++) {
                Edge.due("text of " + (2 + i) + " letters, " + what, books[i].growing(what), due[i][what]);
            }
        }
        String words = String.join(",", Collections.nCopies(8, "ffffffffffff 99"));
        Edge.due("the most often", Check.book("", words).growing(1), 11 * 8 * 99);
        growingAsGrow();
        Edge.promise(19, "BAD_VALUE if what is out of range");
        Edge.refused("what 7", () -> Check.book("", "fe 1"), b -> b.growing(7), Edge.BAD_VALUE);
        for (int what : FAR) {
            Edge.refused("what " + what, () -> Check.book("", "fe 1"), b -> b.growing(what), Edge.BAD_VALUE);
        }
        Edge.promise(19, "NONE if there is no such text");
        for (int what = 0; what <= 6; what++) {
            int asked = what;
            Edge.due("no words, " + what, Check.book("a 1", "").growing(what), Edge.NONE);
            Edge.due("words of a part, " + what, Check.book("abcd 1", "a 1,abcd 1").growing(what), Edge.NONE);
            Edge.unchanged("no words, " + what, Edge.empty("ab"), b -> b.growing(asked));
        }
        Edge.due("a text as soon as there is a word of two parts", Check.book("", "ab 1").growing(0), 2);
        Edge.promise(19, "BAD_VALUE if what is out of range; NONE if there is no such text.");
        Edge.refused("both", Edge.empty("ab"), b -> b.growing(7), Edge.BAD_VALUE);
        Edge.refused("both, below", Edge.empty("ab"), b -> b.growing(-1), Edge.BAD_VALUE);
    }

    private static void growingAsGrow() {
        Edge.promise(19, "Tells of the text that grow() would make a piece.");
        SyllableBook book = Check.book("b 2,ab 3", "abab 3,fc 99,abcdef 5");
        for (int number = 2; number < 16 && book.growing(0) > 0; number++) {
            String text = Check.growingText(book);
            int weight = book.growing(2);
            Edge.due("letters", book.growing(0), text.length());
            Edge.due("grow", book.grow(), number);
            Edge.same("its text", Check.pieceText(book, number), text);
            Edge.due("its weight", book.ofPiece(number, 1), weight);
        }
        Edge.due("until there is none", book.grow(), Edge.NOT_POSSIBLE);
        Edge.due("until there is none", book.growing(1), Edge.NONE);
    }

    // ---- promise 20

    private static void least() {
        Edge.promise(20, "Tells which piece shrink() would drop first.");
        Edge.due("the only one", Check.book("a 9", "a 99").least(), 0);
        Edge.due("the last of 16 of the least weight", wordless().least(), 9);
        for (int size = 15; size >= 0; size--) {
            SyllableBook book = Edge.full("").get();
            book.shrink(size + 1);
            SyllableBook other = Edge.full("").get();
            other.shrink(size + 1);
            book.drop(book.least());
            Edge.due("to " + size, other.shrink(size), 1);
            Edge.same("to " + size, Check.contents(book), Check.contents(other));
        }
        Edge.promise(20, "NONE if there are no pieces");
        Edge.due("no words", new SyllableBook().least(), Edge.NONE);
        Edge.due("words", Check.book("", "abc 1").least(), Edge.NONE);
        SyllableBook dropped = Check.book("a 1", "");
        dropped.drop(0);
        Edge.due("the last one was dropped", dropped.least(), Edge.NONE);
    }

    private static SyllableBook wordless() {
        SyllableBook book = Edge.full("").get();
        for (int word = 7; word >= 0; word--) {
            book.forget(word);
        }
        return book;
    }

    // ---- all of them

    private static void questionsChangeNothing() {
        Edge.terms("---- what if; nothing changes");
        for (var make : List.of(Edge.empty("fc"), Edge.few("fc"), Edge.full("fc"))) {
            Edge.unchanged("costWith, growing, least", make, book -> book.costWith(5) + book.growing(1) + book.least());
        }
        Edge.terms("---- what there is");
        for (var make : List.of(Edge.empty("fc"), Edge.few("fc"), Edge.full("fc"))) {
            Edge.unchanged("ofPiece", make, book -> {
                long sum = 0;
                for (int what = 0; what <= 8; what++) {
                    sum += book.ofPiece(0, what) + book.ofPiece(2, what);
                }
                return sum;
            });
            Edge.unchanged("ofWord, letter, product, part, share, count", make, book -> {
                long sum = 0;
                for (int what = 0; what <= 7; what++) {
                    sum += book.ofWord(1, what) + book.letter(1, what) + book.product(1, what);
                    sum += book.part(1, 0, what) + book.part(0, what, 0) + book.share(1, what) + book.count(what);
                }
                return sum;
            });
        }
    }
}
