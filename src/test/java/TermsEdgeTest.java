import java.util.Collections;
import java.util.List;
import java.util.function.Supplier;

/** The edges in what the document says ahead of its promises, and promise 1. */
public final class TermsEdgeTest {
    public static void main(String[] args) {
        calls512();
        firstErrorThatApplies();
        errorsChangeNothing();
        noneOnlyWithoutError();
        numberedFrom0();
        roundedDown();
        lettersAToF();
        upTo16Pieces();
        numberedAsTheyCame();
        pieceOf1To4Letters();
        noTwoPiecesTheSame();
        weight1To9();
        upTo8Words();
        wordOf1To12Letters();
        severalWordsTheSame();
        count1To99();
        cutsMakeTheWord();
        productOfACut();
        unseenSingleLetters();
        unseenWeight();
        eachWordHasACut();
        greatestProduct();
        fewestParts();
        longestParts();
        totals();
        shares();
        costOfAWord();
        costOfAll();
        lossBelowZero();
        emptyBook();
        Check.finish("TermsEdgeTest");
    }

    // ---- the object, conventions

    private static void calls512() {
        Edge.terms("An object is used for at most 512 calls after it has been made");
        SyllableBook book = new SyllableBook();
        for (int round = 0; round < 102; round++) {
            Edge.due("put " + round, book.put(Check.packed("abc")), 3);
            Edge.due("word " + round, book.word(99), 0);
            Edge.due("grow " + round, book.grow(), 0);
            Edge.due("forget " + round, book.forget(0), 0);
            Edge.due("shrink " + round, book.shrink(0), 1);
        }
        Edge.due("the 511th", book.count(7), 6);
        Edge.due("the 512th", book.undo(), 5);
    }

    private static void firstErrorThatApplies() {
        Edge.terms("it names its errors in the order in which they are checked, and the first one that applies is returned");
        SyllableBook none = new SyllableBook();
        Edge.due("piece: all that can be there at once", Edge.full("abg").get().piece(0), Edge.BAD_TEXT);
        Edge.due("weigh: both", none.weigh(0, 0), Edge.NO_SUCH);
        Edge.due("word: all", Edge.full("abg").get().word(0), Edge.BAD_TEXT);
        Edge.due("recount: both", none.recount(0, 0), Edge.NO_SUCH);
        Edge.due("ofPiece: both", none.ofPiece(0, 9), Edge.NO_SUCH);
        Edge.due("ofWord: both", none.ofWord(0, 6), Edge.NO_SUCH);
        Edge.due("product: both", none.product(0, 2), -1);
        Edge.due("part: both", none.part(0, 0, 3), Edge.NO_SUCH);
        Edge.due("costWith: all", Edge.full("abg").get().costWith(0), Edge.BAD_TEXT);
        Edge.due("put: both", Edge.empty("aaaaaaaaaaaaaaaa").get().put(32), Edge.BAD_VALUE);
        Edge.due("restore: a slot that is none has nothing saved", none.restore(2), Edge.BAD_VALUE);
    }

    private static void errorsChangeNothing() {
        Edge.terms("A call that returns an error changes nothing.");
        for (Supplier<SyllableBook> make : List.of(Edge.empty("abg"), Edge.few("abg"), Edge.full("abg"))) {
            Edge.unchanged("all errors in a row", make, book -> {
                long errors = 0;
                errors += book.piece(1) + book.word(1) + book.costWith(1);
                errors += book.weigh(-1, 1) + book.weigh(16, 1) + book.weigh(0, 0) + book.weigh(0, 10);
                errors += book.drop(-1) + book.drop(16) + book.forget(-1) + book.forget(8);
                errors += book.recount(-1, 1) + book.recount(8, 1) + book.recount(0, 0) + book.recount(0, 100);
                errors += book.shrink(-1) + book.shrink(17);
                errors += book.ofPiece(16, 0) + book.ofPiece(0, 9) + book.ofWord(8, 0) + book.ofWord(0, 6);
                errors += book.letter(0, 12) + book.product(8, 0) + book.product(0, 2) + book.part(0, 12, 0);
                errors += book.part(0, 0, 3) + book.share(0, 16) + book.share(8, 0) + book.count(8) + book.growing(7);
                errors += book.put(0) + book.put(32) + book.put(0x610061);
                errors += book.save(2) + book.restore(2) + book.save(-1) + book.restore(-1);
                return errors;
            });
        }
    }

    private static void noneOnlyWithoutError() {
        Edge.terms("NONE (-6) is not an error; it is returned only if no error applies.");
        SyllableBook book = Check.book("a 1", "b 1");
        Edge.due("ofPiece: behind the last letter", book.ofPiece(0, 3), Edge.NONE);
        Edge.due("ofPiece: behind the last letter of no piece", book.ofPiece(1, 3), Edge.NO_SUCH);
        Edge.due("part: unseen", book.part(0, 0, 0), Edge.NONE);
        Edge.due("part: no part that could be unseen", book.part(0, 1, 0), Edge.NO_SUCH);
        Edge.due("part: what of an unseen one", book.part(0, 0, 3), Edge.BAD_VALUE);
        Edge.due("growing: no text", book.growing(6), Edge.NONE);
        Edge.due("growing: no text, and what out of range", book.growing(7), Edge.BAD_VALUE);
    }

    private static void numberedFrom0() {
        Edge.terms("Everything is numbered from 0.");
        SyllableBook book = new SyllableBook();
        Edge.due("the first piece", Check.piece(book, "g", 1), Edge.BAD_TEXT);
        Edge.due("the first character", book.fault(), 0);
        book.wipe();
        Edge.due("the first piece", Check.piece(book, "ab", 1), 0);
        Edge.due("the first word", Check.word(book, "cab", 1), 0);
        Edge.due("the first letter", book.letter(0, 0), 2);
        Edge.due("the first part", book.part(0, 0, 0), Edge.NONE);
        Edge.due("the first place", book.part(0, 0, 1), 0);
        Edge.due("the second part: piece 0", book.part(0, 1, 0), 0);
        Edge.due("the first slot", book.save(0), 1);
        Edge.due("nothing is number -1", book.ofPiece(-1, 0) + book.ofWord(-1, 0) + book.letter(0, -1) + book.part(0, -1, 0), -4);
    }

    private static void roundedDown() {
        Edge.terms("Divisions are rounded down.");
        // ab: ab of weight w, or A|B: the share of ab is 1000 * w / (w + 1)
        int[] shares = {500, 666, 750, 800, 833, 857, 875, 888, 900};
        for (int weight = 1; weight <= 9; weight++) {
            Edge.due("share of 1000 * " + weight + " / " + (weight + 1),
                    Check.book("ab " + weight, "ab 1").share(0, 0), shares[weight - 1]);
        }
        // a bears 1000 for each count of the word a, b likewise: 8 * count / 80
        int[][] weights = {{1, 1}, {9, 1}, {10, 2}, {19, 2}, {20, 3}, {39, 4}, {40, 5}, {69, 7}, {70, 8}, {79, 8}, {80, 9}};
        for (int[] pair : weights) {
            SyllableBook book = Check.book("a 1,b 1", "a 80,b " + pair[0]);
            book.tune();
            Edge.due("weight of 1 + 8 * " + pair[0] + " / 80", book.ofPiece(1, 1), pair[1]);
        }
    }

    // ---- letters, pieces, words

    private static void lettersAToF() {
        Edge.terms("Letters are a to f.");
        Edge.due("a is 0", Check.book("", "a 1").letter(0, 0), 0);
        Edge.due("f is 5", Check.book("", "f 1").letter(0, 0), 5);
        for (char sign : new char[] {'a', 'f'}) {
            Edge.due(sign + " in a piece", Edge.empty("" + sign).get().piece(1), 0);
            Edge.due(sign + " in a word", Edge.empty("" + sign).get().word(1), 0);
            Edge.due(sign + " is no fault", Edge.empty("" + sign).get().fault(), Edge.NONE);
        }
        for (char sign : new char[] {'`', 'g', 'A', 'F', '!', '~', '1'}) {
            Edge.due(sign + " in a piece", Edge.empty("" + sign).get().piece(1), Edge.BAD_TEXT);
            Edge.due(sign + " in a word", Edge.empty("" + sign).get().word(1), Edge.BAD_TEXT);
            Edge.due(sign + " is a fault", Edge.empty("" + sign).get().fault(), 0);
        }
    }

    private static void upTo16Pieces() {
        Edge.terms("The book has up to 16 pieces");
        SyllableBook book = Edge.full("fe").get();
        Edge.due("16 are there", book.count(0), 16);
        Edge.due("a 17th by piece", book.piece(1), Edge.TOO_MANY);
        Edge.due("a 17th by grow", book.grow(), Edge.TOO_MANY);
        Edge.due("a 17th by costWith", book.costWith(1), Edge.TOO_MANY);
        Edge.due("15 are there", book.drop(15), 15);
        Edge.due("a 16th", book.piece(1), 15);
        Edge.due("then none more", Check.piece(book, "ef", 1), Edge.TOO_MANY);
    }

    private static void numberedAsTheyCame() {
        Edge.terms("numbered in the order in which they came (when one is dropped, those behind it move up)");
        for (int dropped = 0; dropped < 16; dropped++) {
            SyllableBook book = Edge.full("").get();
            String[] texts = new String[16];
            for (int piece = 0; piece < 16; piece++) {
                texts[piece] = Check.pieceText(book, piece) + book.ofPiece(piece, 1);
            }
            book.drop(dropped);
            for (int piece = 0; piece < 15; piece++) {
                Edge.same("piece " + piece + " without " + dropped, Check.pieceText(book, piece) + book.ofPiece(piece, 1),
                        texts[piece < dropped ? piece : piece + 1]);
            }
            Edge.due("no piece 15 without " + dropped, book.ofPiece(15, 0), Edge.NO_SUCH);
        }
        Edge.terms("There are up to 8 words, numbered likewise");
        for (int forgotten = 0; forgotten < 8; forgotten++) {
            SyllableBook book = Edge.full("").get();
            String[] texts = new String[8];
            for (int word = 0; word < 8; word++) {
                texts[word] = Check.letters(book, word) + book.ofWord(word, 1);
            }
            book.forget(forgotten);
            for (int word = 0; word < 7; word++) {
                Edge.same("word " + word + " without " + forgotten, Check.letters(book, word) + book.ofWord(word, 1),
                        texts[word < forgotten ? word : word + 1]);
            }
            Edge.due("no word 7 without " + forgotten, book.ofWord(7, 0), Edge.NO_SUCH);
        }
    }

    private static void pieceOf1To4Letters() {
        Edge.terms("a piece has 1 to 4 letters");
        String letters = "fedcba";
        for (int length = 0; length <= 5; length++) {
            SyllableBook book = Edge.empty(letters.substring(0, length)).get();
            boolean fits = length >= 1 && length <= 4;
            Edge.due(length + " letters", book.piece(1), fits ? 0 : Edge.BAD_TEXT);
            Edge.same(length + " letters", Check.pieceText(book, 0), fits ? letters.substring(0, length) : "");
        }
        // Nor does one grow longer.
        Edge.due("aaa and b grow", Check.book("aaa 1", "aaab 1").grow(), 1);
        Edge.due("aaaa and b don't", Check.book("aaaa 1", "aaaab 1").grow(), Edge.NOT_POSSIBLE);
    }

    private static void noTwoPiecesTheSame() {
        Edge.terms("no two pieces have the same");
        Edge.due("the same, with another weight", Check.piece(Check.book("ab 3", ""), "ab", 4), Edge.NOT_POSSIBLE);
        String[] others = {"a", "b", "ba", "aa", "bb", "aab", "abb", "abab", "ac", "cb"};
        for (String other : others) {
            Edge.due("ab and " + other, Check.piece(Check.book("ab 3", ""), other, 3), 1);
        }
        // grow makes none that is there: what stands as neighbours is a piece already
        Edge.due("grow: ab is there", Check.book("a 9,b 9,ab 1", "ab 1").grow(), Edge.NOT_POSSIBLE);
    }

    private static void weight1To9() {
        Edge.terms("and a weight (1 to 9)");
        for (int weight = 0; weight <= 10; weight++) {
            boolean fits = weight >= 1 && weight <= 9;
            SyllableBook book = Check.book("a 5", "");
            Edge.due("piece " + weight, Check.piece(book, "b", weight), fits ? 1 : Edge.BAD_VALUE);
            Edge.due("weigh " + weight, book.weigh(0, weight), fits ? 5 : Edge.BAD_VALUE);
            Edge.due("the weight then", book.ofPiece(0, 1), fits ? weight : 5);
        }
    }

    private static void upTo8Words() {
        Edge.terms("There are up to 8 words");
        SyllableBook book = Edge.full("fed").get();
        Edge.due("8 are there", book.count(1), 8);
        Edge.due("a ninth", book.word(1), Edge.TOO_MANY);
        Edge.due("7 are there", book.forget(7), 7);
        Edge.due("an eighth", book.word(1), 7);
        Edge.due("then none more", Check.word(book, "a", 1), Edge.TOO_MANY);
    }

    private static void wordOf1To12Letters() {
        Edge.terms("a word has 1 to 12 letters");
        String letters = "fedcbaabcdefa";
        for (int length = 0; length <= 13; length++) {
            SyllableBook book = Edge.empty(letters.substring(0, length)).get();
            boolean fits = length >= 1 && length <= 12;
            Edge.due(length + " letters", book.word(1), fits ? 0 : Edge.BAD_TEXT);
            Edge.same(length + " letters", Check.letters(book, 0), fits ? letters.substring(0, length) : "");
        }
    }

    private static void severalWordsTheSame() {
        Edge.terms("several words may have the same");
        SyllableBook book = new SyllableBook();
        for (int word = 0; word < 8; word++) {
            Edge.due("abc once more", Check.word(book, "abc", 1 + word), word);
        }
        Edge.due("each is one of its own", book.count(3), 3 * 36);
    }

    private static void count1To99() {
        Edge.terms("and a count (1 to 99)");
        for (int count : new int[] {0, 1, 2, 98, 99, 100}) {
            boolean fits = count >= 1 && count <= 99;
            SyllableBook book = Check.book("", "a 5");
            Edge.due("word " + count, Check.word(book, "b", count), fits ? 1 : Edge.BAD_VALUE);
            Edge.due("recount " + count, book.recount(0, count), fits ? 5 : Edge.BAD_VALUE);
            Edge.due("the count then", book.ofWord(0, 1), fits ? count : 5);
        }
    }

    // ---- cuts

    private static void cutsMakeTheWord() {
        Edge.terms("A cut of a word is a row of parts that make the word, one behind the other.");
        for (var make : List.of(Edge.few(""), Edge.full(""))) {
            SyllableBook book = make.get();
            for (int word = 0; word < book.count(1); word++) {
                String cut = Check.cut(book, word).toLowerCase();
                Edge.same("word " + word, cut.replace("|", ""), Check.letters(book, word));
                int place = 0;
                for (int part = 0; part < book.ofWord(word, 2); part++) {
                    Edge.due("word " + word + ", part " + part, book.part(word, part, 1), place);
                    place += book.part(word, part, 2);
                }
                Edge.due("word " + word + ", its end", place, book.ofWord(word, 0));
            }
        }
        // Pieces that overlap make no cut together, nor does one that starts ahead of the word.
        Edge.due("overlapping pieces", Check.book("ab 1,bc 1", "abc 1").ofWord(0, 5), 3);
        Edge.due("a piece that sticks out in front", Check.book("fab 9", "abc 1").ofWord(0, 5), 1);
    }

    private static void productOfACut() {
        Edge.terms("The product of a cut is the product of the weights of its parts");
        Edge.due("one part", Check.book("abcd 9", "abcd 1").product(0, 1), 9);
        Edge.due("two parts", Check.book("ab 8,cd 9", "abcd 1").product(0, 1), 72);
        Edge.due("one of them twice", Check.book("ab 8", "abab 1").product(0, 1), 64);
        Edge.due("twelve parts", Check.book("a 2", "aaaaaaaaaaaa 1").product(0, 1), 4096);
        Edge.due("without the count", Check.book("ab 8", "abab 99").product(0, 1), 64);
    }

    private static void unseenSingleLetters() {
        Edge.terms("Each part is a piece of the book, or a single letter that is no piece of the book: an unseen one.");
        SyllableBook none = Check.book("", "ab 1");
        Edge.due("two letters are none: cuts", none.ofWord(0, 5), 1);
        Edge.due("two letters are none: unseen parts", none.ofWord(0, 3), 2);
        SyllableBook letter = Check.book("a 1", "ab 1");
        Edge.due("a letter that is a piece is none", letter.ofWord(0, 3), 1);
        Edge.due("and makes no cut more", letter.ofWord(0, 5), 1);
        Edge.due("nor is it told as one", letter.part(0, 0, 0), 0);
        letter.drop(0);
        Edge.due("a dropped one is one again", letter.ofWord(0, 3), 2);
    }

    private static void unseenWeight() {
        Edge.terms("an unseen one has the weight 1");
        SyllableBook none = Check.book("", "abcdefabcdef 1");
        Edge.due("12 of them: total", none.product(0, 0), 1);
        Edge.due("12 of them: product", none.product(0, 1), 1);
        // ab weighs 1, too: so its cut wins by its parts, not by its product
        SyllableBook even = Check.book("ab 1", "ab 1");
        Edge.due("two of them against a piece: product", even.product(0, 1), 1);
        Edge.due("two of them against a piece: total", even.product(0, 0), 2);
        Edge.due("two of them against a piece: parts", even.ofWord(0, 2), 1);
    }

    private static void eachWordHasACut() {
        Edge.terms("(Each word has a cut.)");
        Edge.due("an empty book: a letter", Check.book("", "f 1").ofWord(0, 5), 1);
        Edge.due("an empty book: 12 letters", Check.book("", "abcdefabcdef 1").ofWord(0, 5), 1);
        Edge.due("pieces that don't fit", Check.book("ba 9,abcd 9", "abc 1").ofWord(0, 5), 1);
        Edge.due("a piece that sticks out behind", Check.book("bcd 9,cdef 9", "abc 1").ofWord(0, 5), 1);
        Edge.due("a piece that just fits", Check.book("bcd 9,cdef 9", "abcd 1").ofWord(0, 5), 2);
        Edge.due("the most", Check.book("aa 1,aaa 1,aaaa 1", "aaaaaaaaaaaa 1").ofWord(0, 5), 1490);
    }

    private static void best(String pieces, String word, String cut) {
        Edge.same(word + " by " + pieces, Check.cut(Check.book(pieces, word + " 1"), 0), cut);
    }

    private static void greatestProduct() {
        Edge.terms("The best cut of a word is the one with the greatest product");
        best("ab 2,a 3", "ab", "a|B");
        best("ab 3,a 2", "ab", "ab");
        best("abcd 8,ab 3,cd 3", "abcd", "ab|cd");
        best("abcd 7,a 2,b 2,c 2", "abcd", "a|b|c|D");
        best("abcd 9,a 2,b 2,c 2", "abcd", "abcd");
        // products that no int holds
        SyllableBook great = Check.book("a 9,aa 9", "aaaaaaaaaaaa 1");
        Edge.due("9 to the power of 12", great.product(0, 1), 282429536481L);
        Edge.due("9 to the power of 12: parts", great.ofWord(0, 2), 12);
        Edge.same("8 times 9 to the power of 10 against 9 to the power of 11",
                Check.cut(Check.book("a 9,b 8,ab 9", "aaaaaaaaaaab 1"), 0), "a|a|a|a|a|a|a|a|a|a|a|b");
        Edge.same("1 times 9 to the power of 11 against 9 to the power of 11",
                Check.cut(Check.book("a 9,b 1,ab 9", "aaaaaaaaaaab 1"), 0), "a|a|a|a|a|a|a|a|a|a|ab");
    }

    private static void fewestParts() {
        Edge.terms("of several the one with the fewest parts");
        best("ab 1", "ab", "ab");
        best("abcd 9,ab 3,cd 3", "abcd", "abcd");
        best("abcd 8,a 2,b 2,c 2", "abcd", "abcd");
        best("ab 2,a 2", "ab", "ab");
        best("a 2,b 2,ab 4", "abab", "ab|ab");
        best("aa 1,aaa 1", "aaaa", "aaa|A");
        best("ab 1,cd 1,bcd 1", "abcd", "ab|cd");
        best("aaa 1,aa 1,abcd 1", "aaaabcd", "aaa|abcd");
        // a shorter first part, but fewer parts in all
        best("ab 1,bcde 1", "abcde", "A|bcde");
        best("abc 2,ab 2,cdef 1,d 1,e 1,f 1", "abcdef", "ab|cdef");
    }

    private static void longestParts() {
        Edge.terms("of these the one with the longest first part, then with the longest second part, and so on");
        best("ab 1,bc 1", "abc", "ab|C");
        best("aa 1,aaa 1", "aaaa", "aaa|A");
        best("aa 2,aaa 2", "aaaaa", "aaa|aa");
        // the first part is the same: the second one decides
        best("c 1,aa 1,aaa 1", "caaaa", "c|aaa|A");
        best("aa 1,aaa 1", "aaaaaaa", "aaa|aaa|A");
        // the first two are the same: the third one decides
        best("aa 1,aaa 1", "cdaaaa", "C|D|aaa|A");
        // the last two of six
        best("aa 1,aaa 1", "cdefaaaa", "C|D|E|F|aaa|A");
        // the first part goes ahead of the second one
        best("aa 1,aaaa 1", "aaaaaaa", "aaaa|aa|A");
        // shorter parts in front of it, but a longer last one: not this
        best("ab 2,cd 2,abc 2", "abcd", "ab|cd");
        best("ab 2,cd 2,abc 4", "abcd", "abc|D");
    }

    private static void totals() {
        Edge.terms("The total of a word is the sum of the products of all its cuts.");
        Edge.due("one cut", Check.book("a 7", "a 1").product(0, 0), 7);
        Edge.due("one cut, unseen", Check.book("b 7", "a 1").product(0, 0), 1);
        Edge.due("two cuts", Check.book("ab 9", "ab 1").product(0, 0), 10);
        Edge.due("without the count", Check.book("ab 9", "ab 99").product(0, 0), 10);
        Edge.due("the greatest", Check.book("a 9,aa 9,aaa 9,aaaa 9", "aaaaaaaaaaaa 1").product(0, 0), 899343046170L);
    }

    private static void shares() {
        Edge.terms("1000 * (the sum, over all cuts, of the product times how often the piece is a part of the cut) / the total");
        Edge.due("in no cut", Check.book("b 9", "a 1").share(0, 0), 0);
        Edge.due("once in the only cut", Check.book("a 9", "a 1").share(0, 0), 1000);
        Edge.due("12 times in the only cut", Check.book("a 9", "aaaaaaaaaaaa 1").share(0, 0), 12000);
        // aaaa: aa|aa 4 with two, three cuts of 2 with one, 1 with none: 14 / 11
        Edge.due("twice, once and never", Check.book("aa 2", "aaaa 1").share(0, 0), 1272);
        Edge.due("without the count", Check.book("aa 2", "aaaa 99").share(0, 0), 1272);
    }

    // ---- costs, losses

    private static void costOfAWord() {
        Edge.terms("The cost of a word is the parts of its best cut, and its unseen parts once more, all times the count of the word.");
        Edge.due("one part, count 1", Check.book("a 1", "a 1").ofWord(0, 4), 1);
        Edge.due("one unseen part, count 1", Check.book("", "a 1").ofWord(0, 4), 2);
        Edge.due("one part, count 99", Check.book("abcd 1", "abcd 99").ofWord(0, 4), 99);
        Edge.due("12 parts, count 99", Check.book("a 1", "aaaaaaaaaaaa 99").ofWord(0, 4), 12 * 99);
        Edge.due("12 unseen parts, count 99", Check.book("", "aaaaaaaaaaaa 99").ofWord(0, 4), 24 * 99);
        Edge.due("both", Check.book("ab 1", "abc 5").ofWord(0, 4), 15);
    }

    private static void costOfAll() {
        Edge.terms("The cost of all is the sum of the costs of all words.");
        Edge.due("no words", Check.book("a 1", "").count(2), 0);
        Edge.due("one word", Check.book("a 1", "ab 2").count(2), 6);
        Edge.due("two words", Check.book("a 1", "ab 2,a 3").count(2), 9);
        String greatest = String.join(",", Collections.nCopies(8, "abcdefabcdef 99"));
        Edge.due("the greatest", Check.book("", greatest).count(2), 8 * 24 * 99);
    }

    private static void lossBelowZero() {
        Edge.terms("The loss of a piece is how much greater the cost of all would be without it (it can be below 0).");
        Edge.due("0: not in the word", Check.book("b 1", "a 1").ofPiece(0, 7), 100000);
        Edge.due("0: no words", Check.book("b 1", "").ofPiece(0, 7), 100000);
        Edge.due("0: not in the best cut", Check.book("b 1,abc 2", "abc 9").ofPiece(0, 7), 100000);
        Edge.due("1: a letter is unseen then", Check.book("a 1", "a 1").ofPiece(0, 7), 100001);
        // aa|A costs 3, aaa 1
        Edge.due("below 0", Check.book("aa 9,aaa 1", "aaa 1").ofPiece(0, 7), 99998);
        Edge.due("below 0, times the count", Check.book("aa 9,aaa 1", "aaa 99").ofPiece(0, 7), 100000 - 2 * 99);
        Edge.due("below 0, and above 0 in another word", Check.book("aa 9,aaa 1", "aaa 1,aa 1").ofPiece(0, 7), 100001);
        // a|a|a|a three times costs 12, aaaa three times 3
        String words = String.join(",", Collections.nCopies(8, "aaaaaaaaaaaa 99"));
        Edge.due("the least", Check.book("a 9,aaaa 1", words).ofPiece(0, 7), 100000 + 8 * 99 * (3 - 12));
        Edge.due("the greatest", Check.book("aaaa 1", words).ofPiece(0, 7), 100000 + 8 * 99 * (24 - 3));
    }

    // ---- promise 1

    private static void emptyBook() {
        Edge.promise(1, "Creates an empty book, without words.");
        SyllableBook book = new SyllableBook();
        for (int what = 0; what <= 7; what++) {
            Edge.due("count " + what, book.count(what), 0);
        }
        for (int what = 0; what <= 6; what++) {
            Edge.due("growing " + what, book.growing(what), Edge.NONE);
        }
        Edge.due("least", book.least(), Edge.NONE);
        Edge.due("fault", book.fault(), Edge.NONE);
        Edge.due("ofPiece", book.ofPiece(0, 0), Edge.NO_SUCH);
        Edge.due("ofWord", book.ofWord(0, 0), Edge.NO_SUCH);
        Edge.due("letter", book.letter(0, 0), Edge.NO_SUCH);
        Edge.due("product", book.product(0, 0), -1);
        Edge.due("part", book.part(0, 0, 0), Edge.NO_SUCH);
        Edge.due("share", book.share(0, 0), Edge.NO_SUCH);
        Edge.due("costWith", book.costWith(1), Edge.BAD_TEXT);
        Edge.due("piece", book.piece(1), Edge.BAD_TEXT);
        Edge.due("word", book.word(1), Edge.BAD_TEXT);
        Edge.due("weigh", book.weigh(0, 1), Edge.NO_SUCH);
        Edge.due("drop", book.drop(0), Edge.NO_SUCH);
        Edge.due("recount", book.recount(0, 1), Edge.NO_SUCH);
        Edge.due("forget", book.forget(0), Edge.NO_SUCH);
        Edge.due("grow", book.grow(), Edge.NOT_POSSIBLE);
        Edge.due("undo", book.undo(), Edge.NOT_POSSIBLE);
        Edge.due("restore 0", book.restore(0), Edge.NOT_POSSIBLE);
        Edge.due("restore 1", book.restore(1), Edge.NOT_POSSIBLE);
        Edge.due("wipe", book.wipe(), 0);
        Edge.due("tune", book.tune(), 0);
        Edge.due("shrink", book.shrink(0), 0);
        Edge.due("save", book.save(0), 0);
        SyllableBook other = Edge.full("abg").get();
        other.save(0);
        Edge.same("one that is made behind a full one", Edge.shows(SyllableBook::new), Edge.shows(Edge.empty("")));
        Edge.due("one that is made behind a full one: pieces", new SyllableBook().count(0), 0);
        Edge.due("one that is made behind a full one: slot", new SyllableBook().restore(0), Edge.NOT_POSSIBLE);
    }
}
