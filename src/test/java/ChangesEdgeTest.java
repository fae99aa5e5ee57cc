import java.util.Collections;
import java.util.function.Supplier;
import java.util.function.ToLongFunction;

/** The edges of promises 2 to 10: the changes. */
public final class ChangesEdgeTest {
    private static final int[] NO_WEIGHTS = {0, 10, -1, 11, 257, 65537, Edge.LEAST, Edge.LEAST + 1, Edge.GREATEST};
    private static final int[] NO_COUNTS = {0, 100, -1, 101, 257, 65537, Edge.LEAST, Edge.LEAST + 1, Edge.GREATEST};
    private static final int[] NO_SIZES = {-1, 17, -16, 256, 65536, Edge.LEAST, Edge.GREATEST};

    public static void main(String[] args) {
        ranges();
        pieces();
        weights();
        drops();
        words();
        recounts();
        forgetting();
        growing();
        tuning();
        shrinking();
        Check.finish("ChangesEdgeTest");
    }

    /** The call is a change: it records one state, and undo shows the one before it. */
    private static void isChange(int promise, Supplier<SyllableBook> make, ToLongFunction<SyllableBook> call) {
        Edge.promise(promise, "This is a change.");
        SyllableBook book = make.get();
        int before = book.count(7);
        String contents = Check.contents(book);
        call.applyAsLong(book);
        Edge.due("one more to undo", book.count(7), Math.min(6, before + 1));
        Edge.due("undo", book.undo(), Math.min(6, before + 1) - 1);
        Edge.same("as it was", Check.contents(book), contents);
    }

    // ---- promise 2

    private static void pieces() {
        pieceEmptiesPad();
        pieceNumbers();
        pieceTexts();
        pieceNoLetters();
        pieceWeights();
        pieceTooMany();
        pieceSuchAPiece();
        pieceErrorOrder();
        isChange(2, Edge.few("fed"), book -> book.piece(1));
        isChange(2, Edge.empty("fed"), book -> book.piece(1));
    }

    private static void pieceEmptiesPad() {
        Edge.promise(2, "Puts the letters of the pad into the book as a piece, and empties the pad.");
        SyllableBook book = Edge.few("fed").get();
        Edge.due("number", book.piece(7), 3);
        Edge.same("letters", Check.pieceText(book, 3), "fed");
        Edge.due("weight", book.ofPiece(3, 1), 7);
        Edge.due("the pad", book.count(6), 0);
        Edge.due("the pad has no letters for another one", book.piece(7), Edge.BAD_TEXT);
        Edge.due("the pad takes 16 again", book.put('a') + book.put(Check.packed("aaaaaaa")) + book.put(Check.packed("aaaaaaaa")),
                1 + 8 + 16);
    }

    private static void pieceNumbers() {
        Edge.promise(2, "Returns its number");
        Edge.due("the first", Edge.empty("a").get().piece(1), 0);
        Edge.due("the second", Check.piece(Check.book("a 1", ""), "b", 1), 1);
        SyllableBook book = Edge.full("abc").get();
        book.drop(0);
        Edge.due("the 16th", book.piece(1), 15);
    }

    private static void pieceTexts() {
        Edge.promise(2, "BAD_TEXT if the pad has not 1 to 4 letters");
        Edge.due("1 letter", Edge.few("f").get().piece(1), 3);
        Edge.due("4 letters", Edge.few("ffff").get().piece(1), 3);
        for (String pad : new String[] {"", "abcde", "ffffff", "abcdefab", "aaaaaaaaaaaaa", "aaaaaaaaaaaaaaaa"}) {
            Edge.refused(pad.length() + " letters, few", Edge.few(pad), book -> book.piece(1), Edge.BAD_TEXT);
            Edge.refused(pad.length() + " letters, full", Edge.full(pad), book -> book.piece(9), Edge.BAD_TEXT);
            Edge.refused(pad.length() + " letters, empty", Edge.empty(pad), book -> book.piece(1), Edge.BAD_TEXT);
        }
    }

    private static void pieceNoLetters() {
        Edge.promise(2, "or something else than letters");
        for (String pad : new String[] {"g", "`", "A", "!", "~", "gabc", "abcg", "ab`c", "aB", "fF", "1", "a{", "a_b"}) {
            Edge.refused(pad, Edge.few(pad), book -> book.piece(1), Edge.BAD_TEXT);
        }
    }

    private static void pieceWeights() {
        Edge.promise(2, "BAD_VALUE if weight is out of range");
        for (int weight : new int[] {1, 9}) {
            SyllableBook book = Edge.few("fed").get();
            Edge.due("weight " + weight, book.piece(weight), 3);
            Edge.due("weight " + weight + " is its weight", book.ofPiece(3, 1), weight);
        }
        for (int weight : NO_WEIGHTS) {
            Edge.refused("weight " + weight, Edge.few("fed"), book -> book.piece(weight), Edge.BAD_VALUE);
        }
    }

    private static void ranges() {
        for (int promise = 2; promise <= 3; promise++) {
            Edge.promise(promise, "`weight`: 1 to 9");
            for (int weight = -1; weight <= 11; weight++) {
                boolean fits = weight >= 1 && weight <= 9;
                SyllableBook book = Edge.few("fed").get();
                Edge.due("weight " + weight, promise == 2 ? book.piece(weight) : book.weigh(1, weight), fits ? 3 : Edge.BAD_VALUE);
                Edge.due("weight " + weight + " then", book.ofPiece(promise == 2 ? 3 : 1, 1),
                        fits ? weight : promise == 2 ? Edge.NO_SUCH : 3);
            }
        }
        for (int promise = 5; promise <= 6; promise++) {
            Edge.promise(promise, "`count`: 1 to 99");
            for (int count = -1; count <= 101; count++) {
                boolean fits = count >= 1 && count <= 99;
                SyllableBook book = Edge.few("fed").get();
                Edge.due("count " + count, promise == 5 ? book.word(count) : book.recount(1, count),
                        fits ? promise == 5 ? 2 : 99 : Edge.BAD_VALUE);
                Edge.due("count " + count + " then", book.ofWord(promise == 5 ? 2 : 1, 1),
                        fits ? count : promise == 5 ? Edge.NO_SUCH : 99);
            }
        }
    }

    private static void pieceTooMany() {
        Edge.promise(2, "TOO_MANY if there are 16 pieces");
        Edge.refused("16 pieces", Edge.full("fed"), book -> book.piece(1), Edge.TOO_MANY);
        SyllableBook book = Edge.full("fed").get();
        book.shrink(15);
        Edge.due("15 pieces", book.piece(1), 15);
        Edge.due("16 pieces then", Check.piece(book, "def", 1), Edge.TOO_MANY);
    }

    private static void pieceSuchAPiece() {
        Edge.promise(2, "NOT_POSSIBLE if there is such a piece");
        for (String pad : new String[] {"a", "ab", "cdef"}) {
            Edge.refused(pad, Edge.few(pad), book -> book.piece(5), Edge.NOT_POSSIBLE);
        }
        for (String pad : new String[] {"b", "aa", "ba", "aab", "aba", "cde", "def", "fedc"}) {
            Edge.due(pad + " is another one", Edge.few(pad).get().piece(5), 3);
        }
        SyllableBook book = Edge.few("ab").get();
        book.drop(1);
        Edge.due("one that was dropped", book.piece(5), 2);
        SyllableBook undone = Edge.empty("ab").get();
        undone.piece(5);
        undone.undo();
        Edge.due("one that was undone", Check.piece(undone, "ab", 5), 0);
    }

    private static void pieceErrorOrder() {
        Edge.promise(2, "BAD_TEXT if the pad has not 1 to 4 letters, or something else than letters; BAD_VALUE if weight is "
                + "out of range; TOO_MANY if there are 16 pieces; NOT_POSSIBLE if there is such a piece.");
        Edge.refused("text, weight", Edge.few("abcde"), book -> book.piece(0), Edge.BAD_TEXT);
        Edge.refused("text, weight: empty pad", Edge.few(""), book -> book.piece(10), Edge.BAD_TEXT);
        Edge.refused("text, 16 pieces", Edge.full("g"), book -> book.piece(1), Edge.BAD_TEXT);
        Edge.refused("text, weight, 16 pieces", Edge.full("g"), book -> book.piece(10), Edge.BAD_TEXT);
        Edge.refused("weight, 16 pieces", Edge.full("fed"), book -> book.piece(10), Edge.BAD_VALUE);
        Edge.refused("weight, such a piece", Edge.few("ab"), book -> book.piece(0), Edge.BAD_VALUE);
        Edge.refused("weight, 16 pieces, such a piece", Edge.full("abcd"), book -> book.piece(0), Edge.BAD_VALUE);
        Edge.refused("16 pieces, such a piece", Edge.full("abcd"), book -> book.piece(9), Edge.TOO_MANY);
    }

    // ---- promise 3

    private static void weights() {
        Edge.promise(3, "Returns the previous one");
        SyllableBook book = Edge.few("xyz").get();
        Edge.due("2 to 1", book.weigh(0, 1), 2);
        Edge.due("1 to 9", book.weigh(0, 9), 1);
        Edge.due("9 to 9", book.weigh(0, 9), 9);
        Edge.due("the pad stays", book.count(6), 3);
        Edge.promise(3, "NO_SUCH if there is no such piece");
        Edge.due("the last piece", Edge.few("").get().weigh(2, 1), 9);
        Edge.due("piece 15 of 16", Edge.full("").get().weigh(15, 1), 7);
        for (int piece : new int[] {3, 4, 15, 16, -1, 256, Edge.LEAST, Edge.GREATEST}) {
            Edge.refused("piece " + piece, Edge.few("ab"), b -> b.weigh(piece, 1), Edge.NO_SUCH);
        }
        Edge.refused("piece 16 of 16", Edge.full("ab"), b -> b.weigh(16, 1), Edge.NO_SUCH);
        Edge.refused("piece 0 of none", Edge.empty("ab"), b -> b.weigh(0, 1), Edge.NO_SUCH);
        Edge.promise(3, "BAD_VALUE if weight is out of range");
        Edge.due("weight 1", Edge.few("").get().weigh(0, 1), 2);
        Edge.due("weight 9", Edge.few("").get().weigh(0, 9), 2);
        for (int weight : NO_WEIGHTS) {
            Edge.refused("weight " + weight, Edge.few("ab"), b -> b.weigh(0, weight), Edge.BAD_VALUE);
        }
        Edge.promise(3, "NO_SUCH if there is no such piece; BAD_VALUE if weight is out of range.");
        Edge.refused("both", Edge.few("ab"), b -> b.weigh(3, 0), Edge.NO_SUCH);
        Edge.refused("both, above", Edge.full("ab"), b -> b.weigh(-1, 10), Edge.NO_SUCH);
        isChange(3, Edge.few("ab"), b -> b.weigh(0, 9));
        isChange(3, Edge.few("ab"), b -> b.weigh(0, 2));
    }

    // ---- promise 4

    private static void drops() {
        Edge.promise(4, "Returns how many pieces there are then");
        SyllableBook book = Edge.full("xyz").get();
        for (int left = 15; left >= 0; left--) {
            Edge.due("left", book.drop(left / 2), left);
        }
        Edge.due("the pad stays", book.count(6), 3);
        Edge.due("the words stay", book.count(1), 8);
        Edge.promise(4, "NO_SUCH if there is no such piece");
        Edge.due("none is left", book.drop(0), Edge.NO_SUCH);
        Edge.due("the first", Edge.few("").get().drop(0), 2);
        Edge.due("the last", Edge.few("").get().drop(2), 2);
        Edge.due("piece 15 of 16", Edge.full("").get().drop(15), 15);
        for (int piece : new int[] {3, 4, 16, -1, 256, Edge.LEAST, Edge.GREATEST}) {
            Edge.refused("piece " + piece, Edge.few("ab"), b -> b.drop(piece), Edge.NO_SUCH);
        }
        Edge.refused("piece 16 of 16", Edge.full("ab"), b -> b.drop(16), Edge.NO_SUCH);
        Edge.refused("piece 0 of none", Edge.empty("ab"), b -> b.drop(0), Edge.NO_SUCH);
        isChange(4, Edge.few("ab"), b -> b.drop(0));
        isChange(4, Edge.full("ab"), b -> b.drop(15));
    }

    // ---- promise 5

    private static void words() {
        Edge.promise(5, "Adds the letters of the pad as a word, and empties the pad.");
        SyllableBook book = Edge.few("fedcbaabcdef").get();
        Edge.due("number", book.word(77), 2);
        Edge.same("letters", Check.letters(book, 2), "fedcbaabcdef");
        Edge.due("count", book.ofWord(2, 1), 77);
        Edge.due("the pad", book.count(6), 0);
        Edge.due("the pad has no letters for another one", book.word(1), Edge.BAD_TEXT);
        Edge.promise(5, "Returns its number");
        Edge.due("the first", Edge.empty("a").get().word(1), 0);
        SyllableBook eight = Edge.full("a").get();
        eight.forget(0);
        Edge.due("the eighth", eight.word(1), 7);
        wordTexts();
        wordCounts();
        Edge.promise(5, "TOO_MANY if there are 8 words");
        Edge.refused("8 words", Edge.full("fed"), b -> b.word(1), Edge.TOO_MANY);
        wordErrorOrder();
        isChange(5, Edge.few("fed"), b -> b.word(1));
        isChange(5, Edge.empty("fed"), b -> b.word(1));
    }

    private static void wordTexts() {
        Edge.promise(5, "BAD_TEXT if the pad has not 1 to 12 letters");
        Edge.due("1 letter", Edge.few("f").get().word(1), 2);
        Edge.due("12 letters", Edge.few("ffffffffffff").get().word(1), 2);
        for (String pad : new String[] {"", "abcdefabcdefa", "ffffffffffffff", "aaaaaaaaaaaaaaaa"}) {
            Edge.refused(pad.length() + " letters, few", Edge.few(pad), book -> book.word(1), Edge.BAD_TEXT);
            Edge.refused(pad.length() + " letters, full", Edge.full(pad), book -> book.word(99), Edge.BAD_TEXT);
            Edge.refused(pad.length() + " letters, empty", Edge.empty(pad), book -> book.word(1), Edge.BAD_TEXT);
        }
        Edge.promise(5, "or something else than letters");
        for (String pad : new String[] {"g", "`", "A", "!", "~", "gabcdefabcde", "abcdefabcdeg", "abcdef`abcde", "fF"}) {
            Edge.refused(pad, Edge.few(pad), book -> book.word(1), Edge.BAD_TEXT);
        }
    }

    private static void wordCounts() {
        Edge.promise(5, "BAD_VALUE if count is out of range");
        for (int count : new int[] {1, 99}) {
            SyllableBook book = Edge.few("fed").get();
            Edge.due("count " + count, book.word(count), 2);
            Edge.due("count " + count + " is its count", book.ofWord(2, 1), count);
        }
        for (int count : NO_COUNTS) {
            Edge.refused("count " + count, Edge.few("fed"), book -> book.word(count), Edge.BAD_VALUE);
        }
    }

    private static void wordErrorOrder() {
        Edge.promise(5, "BAD_TEXT if the pad has not 1 to 12 letters, or something else than letters; BAD_VALUE if count is "
                + "out of range; TOO_MANY if there are 8 words.");
        Edge.refused("text, count", Edge.few("g"), book -> book.word(0), Edge.BAD_TEXT);
        Edge.refused("text, count: empty pad", Edge.few(""), book -> book.word(100), Edge.BAD_TEXT);
        Edge.refused("text, 8 words", Edge.full("g"), book -> book.word(1), Edge.BAD_TEXT);
        Edge.refused("text, count, 8 words", Edge.full("g"), book -> book.word(100), Edge.BAD_TEXT);
        Edge.refused("count, 8 words", Edge.full("fed"), book -> book.word(0), Edge.BAD_VALUE);
        Edge.refused("count above, 8 words", Edge.full("fed"), book -> book.word(100), Edge.BAD_VALUE);
    }

    // ---- promise 6

    private static void recounts() {
        Edge.promise(6, "Returns the previous one");
        SyllableBook book = Edge.few("xyz").get();
        Edge.due("3 to 1", book.recount(0, 1), 3);
        Edge.due("1 to 99", book.recount(0, 99), 1);
        Edge.due("99 to 99", book.recount(0, 99), 99);
        Edge.due("the pad stays", book.count(6), 3);
        Edge.promise(6, "NO_SUCH if there is no such word");
        Edge.due("the last word", Edge.few("").get().recount(1, 1), 99);
        Edge.due("word 7 of 8", Edge.full("").get().recount(7, 1), 85);
        for (int word : new int[] {2, 3, 7, 8, -1, 256, Edge.LEAST, Edge.GREATEST}) {
            Edge.refused("word " + word, Edge.few("ab"), b -> b.recount(word, 1), Edge.NO_SUCH);
        }
        Edge.refused("word 8 of 8", Edge.full("ab"), b -> b.recount(8, 1), Edge.NO_SUCH);
        Edge.refused("word 0 of none", Edge.empty("ab"), b -> b.recount(0, 1), Edge.NO_SUCH);
        Edge.promise(6, "BAD_VALUE if count is out of range");
        Edge.due("count 1", Edge.few("").get().recount(0, 1), 3);
        Edge.due("count 99", Edge.few("").get().recount(0, 99), 3);
        for (int count : NO_COUNTS) {
            Edge.refused("count " + count, Edge.few("ab"), b -> b.recount(0, count), Edge.BAD_VALUE);
        }
        Edge.promise(6, "NO_SUCH if there is no such word; BAD_VALUE if count is out of range.");
        Edge.refused("both", Edge.few("ab"), b -> b.recount(2, 0), Edge.NO_SUCH);
        Edge.refused("both, above", Edge.full("ab"), b -> b.recount(-1, 100), Edge.NO_SUCH);
        isChange(6, Edge.few("ab"), b -> b.recount(0, 99));
        isChange(6, Edge.few("ab"), b -> b.recount(0, 3));
    }

    // ---- promise 7

    private static void forgetting() {
        Edge.promise(7, "Returns how many words there are then");
        SyllableBook book = Edge.full("xyz").get();
        for (int left = 7; left >= 0; left--) {
            Edge.due("left", book.forget(left / 2), left);
        }
        Edge.due("the pad stays", book.count(6), 3);
        Edge.due("the pieces stay", book.count(0), 16);
        Edge.promise(7, "NO_SUCH if there is no such word");
        Edge.due("none is left", book.forget(0), Edge.NO_SUCH);
        Edge.due("the first", Edge.few("").get().forget(0), 1);
        Edge.due("the last", Edge.few("").get().forget(1), 1);
        Edge.due("word 7 of 8", Edge.full("").get().forget(7), 7);
        for (int word : new int[] {2, 3, 8, -1, 256, Edge.LEAST, Edge.GREATEST}) {
            Edge.refused("word " + word, Edge.few("ab"), b -> b.forget(word), Edge.NO_SUCH);
        }
        Edge.refused("word 8 of 8", Edge.full("ab"), b -> b.forget(8), Edge.NO_SUCH);
        Edge.refused("word 0 of none", Edge.empty("ab"), b -> b.forget(0), Edge.NO_SUCH);
        isChange(7, Edge.few("ab"), b -> b.forget(0));
        isChange(7, Edge.full("ab"), b -> b.forget(7));
    }

    // ---- promise 8

    private static void grows(String which, String pieces, String words, String text, int weight) {
        SyllableBook book = Check.book(pieces, words);
        int number = book.count(0);
        Edge.due(which + ": number", book.grow(), number);
        Edge.same(which + ": text", Check.pieceText(book, number), text);
        Edge.due(which + ": weight", book.ofPiece(number, 1), weight);
    }

    private static void growsNot(String which, String pieces, String words) {
        Edge.refused(which, () -> Check.book(pieces, words), SyllableBook::grow, Edge.NOT_POSSIBLE);
    }

    private static void growing() {
        growNeighbours();
        growLetters();
        growMostOften();
        growOfSeveral();
        growWeights();
        growErrors();
        isChange(8, Edge.few("xy"), SyllableBook::grow);
        isChange(8, () -> Check.book("", "ab 1"), SyllableBook::grow);
        Edge.promise(8, "Lets a piece grow");
        SyllableBook book = Edge.few("ab").get();
        book.grow();
        Edge.due("the pad stays", book.count(6), 2);
    }

    private static void growNeighbours() {
        Edge.promise(8, "of all texts of two parts that are neighbours in the best cut of some word");
        grows("a word of two parts", "", "ab 1", "ab", 1);
        growsNot("words of one part", "ab 1", "a 1,b 1,ab 1");
        // a and c are no neighbours, nor is the end of a word one of the next word's start
        growsNot("a part between", "abcd 9,e 9,ef 1", "abcdeabcd 1,abcdef 1,ef 1");
        growsNot("parts of two words", "", "a 1,b 1");
        // in the best cut ab|C, not in A|B|C: so neither ab nor bc
        grows("only in the best cut", "ab 1", "abc 1", "abc", 1);
        grows("the last two parts", "aaaa 9,b 9,c 9", "aaaabc 1", "bc", 9);
        grows("the first two parts", "aaaa 9,b 9,c 9", "bcaaaa 1", "bc", 9);
    }

    private static void growLetters() {
        Edge.promise(8, "have at most 4 letters together");
        grows("1 and 1", "", "ab 1", "ab", 1);
        grows("2 and 2", "ab 1,cd 1", "abcd 1", "abcd", 1);
        grows("1 and 3", "bcd 1", "abcd 1", "abcd", 1);
        grows("3 and 1", "abc 1", "abcd 1", "abcd", 1);
        growsNot("2 and 3", "ab 1,cde 1", "abcde 9");
        growsNot("3 and 2", "abc 1,de 1", "abcde 9");
        growsNot("1 and 4", "bcde 1", "abcde 9");
        growsNot("4 and 1", "abcd 1", "abcde 9");
        growsNot("4 and 4", "aaaa 1", "aaaaaaaa 9");
        Edge.promise(8, "and are no piece of the book");
        growsNot("a piece of 2 letters", "a 9,b 9,ab 1", "ab 9");
        growsNot("a piece of 4 letters", "ab 9,cd 9,abcd 1", "abcd 9");
        grows("another one than the piece", "a 9,b 9,ab 1", "ab 99,ba 1", "ba", 9);
    }

    private static void growMostOften() {
        Edge.promise(8, "the one that stands so the most often (each time counts with the count of its word)");
        grows("2 times against 1", "", "abaab 1", "ab", 1);
        grows("count 2 against 1", "", "ab 1,cd 2", "cd", 1);
        grows("count 2 against 2 times", "", "abfab 1,cd 2", "ab", 1);
        grows("count 3 against 2 times", "", "abfab 1,cd 3", "cd", 1);
        grows("in two words", "", "ef 98,ab 50,ab 49", "ab", 1);
        grows("each of the overlapping ones", "", "aaaa 1,bc 2", "aa", 1);
        grows("the most: 11 times in each of 8 words", "",
                String.join(",", Collections.nCopies(8, "ffffffffffff 99")), "ff", 1);
    }

    private static void growOfSeveral() {
        Edge.promise(8, "of several the shortest one");
        grows("2 letters against 3", "ab 1", "abc 5,fe 5", "fe", 1);
        grows("3 letters against 4", "ab 1,fed 1", "feda 5,abc 5", "abc", 1);
        grows("3 letters that stand more often", "ab 1", "abc 6,fe 5", "abc", 1);
        Edge.promise(8, "of these the first one by the alphabet");
        grows("by the first letter", "", "fa 5,ef 5", "ef", 1);
        grows("by the last letter", "", "fb 5,fa 5", "fa", 1);
        grows("by the last of 4 letters", "fed 1", "fedb 5,feda 5,fedc 5", "feda", 1);
        grows("by the first of 4 letters", "ab 1,bc 1,fd 1", "bcab 5,abfd 5", "abfd", 1);
    }

    private static void growWeights() {
        Edge.promise(8, "with the lesser weight of both parts");
        grows("the first part's", "ab 2,cd 3", "abcd 1", "abcd", 2);
        grows("the second part's", "ab 3,cd 2", "abcd 1", "abcd", 2);
        grows("the same", "ab 9,cd 9", "abcd 1", "abcd", 9);
        grows("an unseen one first", "bc 9", "abc 1", "abc", 1);
        grows("an unseen one second", "ab 9", "abc 1", "abc", 1);
        grows("two unseen ones", "", "ab 1", "ab", 1);
        Edge.promise(8, "(of the first place in the words, in their order, where it stands so)");
        grows("in two words", "ab 2,c 5", "abc 1,fabc 1", "abc", 2);
        grows("in two words, the other way round", "ab 2,c 5", "fabc 1,abc 1", "abc", 2);
        grows("twice in a word", "ab 7,c 5", "abcabc 1", "abc", 5);
        Edge.promise(8, "Returns its number");
        Edge.due("the first", Check.book("", "ab 1").grow(), 0);
        Edge.due("the second", Check.book("f 1", "ab 1").grow(), 1);
    }

    private static void growErrors() {
        Edge.promise(8, "TOO_MANY if there are 16 pieces");
        Edge.refused("16 pieces", Edge.full("ab"), SyllableBook::grow, Edge.TOO_MANY);
        SyllableBook book = Edge.full("ab").get();
        book.drop(0);
        Edge.due("15 pieces", book.grow(), 15);
        Edge.due("16 pieces then", book.grow(), Edge.TOO_MANY);
        Edge.promise(8, "NOT_POSSIBLE if there is no such text");
        Edge.refused("no words, no pieces", Edge.empty("ab"), SyllableBook::grow, Edge.NOT_POSSIBLE);
        growsNot("no words", "a 1,b 2", "");
        growsNot("words of a letter", "", "a 1,b 2");
        growsNot("words of a piece", "abcd 1", "abcd 9");
        Edge.promise(8, "TOO_MANY if there are 16 pieces; NOT_POSSIBLE if there is no such text.");
        Edge.refused("both", () -> {
            SyllableBook wordless = Edge.full("").get();
            for (int word = 7; word >= 0; word--) {
                wordless.forget(word);
            }
            return wordless;
        }, SyllableBook::grow, Edge.TOO_MANY);
    }

    // ---- promise 9

    private static void tuning() {
        tuneB();
        tuneWeights();
        tuneWithoutB();
        tuneAhead();
        tuneHowMany();
        isChange(9, Edge.few("ab"), SyllableBook::tune);
        isChange(9, Edge.full("ab"), SyllableBook::tune);
        isChange(9, Edge.empty("ab"), SyllableBook::tune);
    }

    private static void tuneWeights() {
        Edge.promise(9, "the weight of each piece becomes 1 + 8 * its b / the greatest b");
        // b: a 99000, b 12000, c 13000, d 0: 8 * 12 / 99 is below 1, 8 * 13 / 99 above it
        SyllableBook book = Check.book("a 2,b 3,c 5,d 7", "a 99,b 12,c 13");
        Edge.due("how many", book.tune(), 4);
        Edge.same("the greatest b to 9, just below 1 to 1, just above 1 to 2, none to 1", Check.contents(book),
                "a 9,b 1,c 2,d 1, /a 99,b 12,c 13,");
        SyllableBook even = Check.book("a 1,b 1", "a 7,b 7");
        even.tune();
        Edge.same("the greatest b twice", Check.contents(even), "a 9,b 9, /a 7,b 7,");
        String words = String.join(",", Collections.nCopies(8, "aaaaaaaaaaab 99"));
        SyllableBook greatest = Check.book("a 1,b 1", words);
        Edge.due("the greatest b", greatest.ofPiece(0, 8), 8 * 99 * 11000);
        Edge.due("the greatest b: how many", greatest.tune(), 1);
        Edge.due("8 * 1 / 11", greatest.ofPiece(1, 1), 1);
        // aaab bears 1 of 6562, which is 0 thousandths, though it stands in the word
        SyllableBook tiny = Check.book("aaab 1,a 9,b 9", "aaab 99");
        Edge.due("a share of 0 thousandths", tiny.ofPiece(0, 8), 0);
        tiny.tune();
        Edge.same("a share of 0 thousandths", Check.contents(tiny), "aaab 1,a 9,b 3, /aaab 99,");
    }

    private static void tuneB() {
        Edge.promise(9, "with b for the sum, over all words, of the count times the share of a piece");
        // a stands once in a word of the count 8, b eight times in one of the count 1
        SyllableBook book = Check.book("a 1,b 1", "a 8,bbbbbbbb 1");
        Edge.due("count and share: how many", book.tune(), 2);
        Edge.same("count and share", Check.contents(book), "a 9,b 9, /a 8,bbbbbbbb 1,");
        // 40 and 40 against 80 and 0
        SyllableBook sum = Check.book("a 1,b 1,c 1", "a 40,b 80,a 40,c 10");
        sum.tune();
        Edge.same("over all words", Check.contents(sum), "a 9,b 9,c 2, /a 40,b 80,a 40,c 10,");
        // The shares of a and ab, 1000 / 3 and 2000 / 3, are 333 and 666: three times 999 and 1998, just below 2000.
        SyllableBook rounded = Check.book("a 1,ab 2,f 1", "ab 3,f 2");
        Edge.due("of shares that are rounded down", rounded.ofPiece(0, 8), 999);
        Edge.due("of shares that are rounded down", rounded.ofPiece(1, 8), 1998);
        rounded.tune();
        Edge.same("of shares that are rounded down", Check.contents(rounded), "a 4,ab 8,f 9, /ab 3,f 2,");
    }

    private static void tuneWithoutB() {
        Edge.promise(9, "(1, if the greatest b is 0)");
        SyllableBook wordless = Check.book("a 1,b 2,c 9", "");
        Edge.due("no words: how many", wordless.tune(), 2);
        Edge.same("no words", Check.contents(wordless), "a 1,b 1,c 1, /");
        SyllableBook unused = Check.book("a 1,b 2,cd 9", "cef 99");
        Edge.due("no piece in a word: how many", unused.tune(), 2);
        Edge.same("no piece in a word", Check.contents(unused), "a 1,b 1,cd 1, /cef 99,");
        Edge.due("no pieces", Check.book("", "abc 1").tune(), 0);
        Edge.due("nothing at all", new SyllableBook().tune(), 0);
    }

    private static void tuneAhead() {
        Edge.promise(9, "all by the weights ahead of it");
        // What ofPiece told ahead of it decides, not what it tells once the first weights are new.
        SyllableBook book = Check.book("a 9,ab 1,aa 1,b 1", "aab 3,ab 2");
        int[] borne = new int[4];
        int greatest = 0;
        for (int piece = 0; piece < 4; piece++) {
            borne[piece] = book.ofPiece(piece, 8);
            greatest = Math.max(greatest, borne[piece]);
        }
        book.tune();
        for (int piece = 0; piece < 4; piece++) {
            Edge.due("piece " + piece, book.ofPiece(piece, 1), 1 + 8 * borne[piece] / greatest);
        }
    }

    private static void tuneHowMany() {
        Edge.promise(9, "Returns how many pieces have another weight then.");
        Edge.due("all", Check.book("a 1,b 2,c 9", "a 1,b 1").tune(), 3);
        Edge.due("none", Check.book("a 9,b 9,c 1", "a 1,b 1").tune(), 0);
        Edge.due("the last one", Check.book("a 9,b 9,c 2", "a 1,b 1").tune(), 1);
        Edge.due("the first one", Check.book("a 8,b 9,c 1", "a 1,b 1").tune(), 1);
        SyllableBook all = Edge.full("").get();
        for (int word = 7; word >= 0; word--) {
            all.forget(word);
        }
        // of the weights 1 to 9, 1 to 7 only those of 1 stay: a and dd
        Edge.due("14 of 16", all.tune(), 14);
        Edge.due("none of 16", all.tune(), 0);
        all.undo();
        all.undo();
        all.weigh(0, 2);
        all.weigh(9, 2);
        Edge.due("all of 16", all.tune(), 16);
    }

    // ---- promise 10

    private static void shrinks(String which, String pieces, String words, int size, String left) {
        SyllableBook book = Check.book(pieces, words);
        int before = book.count(0);
        book.shrink(size);
        Edge.same(which, Check.contents(book).split(" /")[0], left);
        Edge.due(which + ", pieces", book.count(0), Math.min(before, size));
    }

    private static void shrinking() {
        Edge.promise(10, "Drops pieces until there are not more than so many");
        Edge.due("more than there are", Edge.few("").get().shrink(4), 0);
        Edge.due("as many as there are", Edge.few("").get().shrink(3), 0);
        Edge.due("one less", Edge.few("").get().shrink(2), 1);
        Edge.due("to none", Edge.few("").get().shrink(0), 3);
        Edge.due("none to none", Edge.empty("").get().shrink(0), 0);
        Edge.due("16 to none", Edge.full("").get().shrink(0), 16);
        Edge.due("16 to 15", Edge.full("").get().shrink(15), 1);
        Edge.due("16 to 16", Edge.full("").get().shrink(16), 0);
        SyllableBook book = Edge.full("xyz").get();
        book.shrink(5);
        Edge.due("then there are so many", book.count(0), 5);
        Edge.due("the pad stays", book.count(6), 3);
        Edge.due("the words stay", book.count(1), 8);
        shrinkLosses();
        Edge.promise(10, "`size`: 0 to 16");
        for (int size = -1; size <= 17; size++) {
            boolean fits = size >= 0 && size <= 16;
            SyllableBook sized = Edge.full("").get();
            Edge.due("size " + size, sized.shrink(size), fits ? 16 - size : Edge.BAD_VALUE);
            Edge.due("size " + size + ", pieces", sized.count(0), fits ? size : 16);
        }
        Edge.promise(10, "BAD_VALUE if size is out of range");
        for (int size : NO_SIZES) {
            Edge.refused("size " + size + ", few", Edge.few("ab"), b -> b.shrink(size), Edge.BAD_VALUE);
            Edge.refused("size " + size + ", full", Edge.full("ab"), b -> b.shrink(size), Edge.BAD_VALUE);
        }
        Edge.refused("size 17, empty", Edge.empty("ab"), b -> b.shrink(17), Edge.BAD_VALUE);
        isChange(10, Edge.few("ab"), b -> b.shrink(0));
        isChange(10, Edge.full("ab"), b -> b.shrink(1));
        isChange(10, Edge.few("ab"), b -> b.shrink(16));
        isChange(10, Edge.empty("ab"), b -> b.shrink(0));
    }

    private static void shrinkLosses() {
        Edge.promise(10, "each time one with the least loss");
        shrinks("1 against 2", "a 1,b 9", "aab 1", 1, "a 1,");
        shrinks("2 against 1", "a 9,b 1", "abb 1", 1, "b 1,");
        shrinks("below 0 against 0", "f 1,aa 9,aaa 1", "aaa 1", 2, "f 1,aaa 1,");
        shrinks("told anew: aa borne by aaa at first", "aaa 1,b 2,aa 9", "aaa 5,b 1", 1, "aaa 1,");
        // ab|C and A|bc cost the same, so neither ab nor bc has a loss; ab has one as soon as bc is gone
        shrinks("told anew: two that stand in for each other", "ab 2,bc 2,d 9", "abc 1,d 1", 2, "ab 2,d 9,");
        shrinks("told anew: the one that is left of them", "ab 2,bc 2,d 9", "abc 1,d 1", 1, "ab 2,");
        Edge.promise(10, "of several the one with the lowest weight");
        shrinks("first", "a 1,b 2,c 3", "", 2, "b 2,c 3,");
        shrinks("between", "a 2,b 1,c 2", "", 2, "a 2,c 2,");
        shrinks("last", "a 3,b 2,c 1", "", 2, "a 3,b 2,");
        shrinks("9 against 8", "a 9,b 8", "ab 1", 1, "a 9,");
        Edge.promise(10, "of these the last one");
        shrinks("of two", "a 2,b 2", "", 1, "a 2,");
        shrinks("of three, to one", "a 2,b 2,c 2", "", 1, "a 2,");
        shrinks("not behind them, of a greater weight", "a 2,b 2,c 3", "", 2, "a 2,c 3,");
        shrinks("of two with a loss", "a 2,b 2,c 2", "abcc 1", 2, "a 2,c 2,");
        Edge.promise(10, "Returns how many are dropped");
        Edge.due("none", Check.book("a 1", "").shrink(1), 0);
        Edge.due("one", Check.book("a 1", "").shrink(0), 1);
    }
}
