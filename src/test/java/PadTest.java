/** Promises 21 to 23: put, wipe, fault. */
public final class PadTest {
    public static void main(String[] args) {
        puts();
        putErrors();
        fullPad();
        wipes();
        faults();
        Check.finish("PadTest");
    }

    private static void puts() {
        SyllableBook book = new SyllableBook();
        Check.due("put: one", book.put('a'), 1);
        Check.due("put: more", book.put(Check.packed("bc")), 3);
        Check.due("put: the last character is the lowest", book.word(1), 0);
        Check.same("put: in order", Check.letters(book, 0), "abc");
        Check.due("put: eight", book.put(Check.packed("abcdefab")), 8);
        Check.due("put: is no change", book.count(7), 1);
        book.word(2);
        Check.same("put: eight in order", Check.letters(book, 1), "abcdefab");
        Check.due("put: code 33", book.put(33), 1);
        Check.due("put: code 126", book.put(126), 2);
        Check.due("put: eight of code 126", book.put(0x7E7E7E7E7E7E7E7EL), 10);
        Check.due("put: code 33 above", book.put(0x2161), 12);
    }

    private static void putErrors() {
        putError("no character", 0);
        putError("code 32", 32);
        putError("code 127", 127);
        putError("code 128", 128);
        putError("code 255", 255);
        putError("code 1", 1);
        putError("code 32 above", 0x2061);
        putError("code 127 above", 0x7F61);
        putError("code 32 below", 0x6120);
        putError("lowest 8 bits 0", 0x6100);
        putError("8 bits 0 between", 0x610061);
        putError("a bit far above", 1L << 62 | 0x61);
        putError("the highest bit far above", Long.MIN_VALUE | 0x61);
        putError("the highest bit alone", Long.MIN_VALUE);
        putError("all bits", -1);
        putError("code 128 on top", 0x8061616161616161L);
        putError("code 127 on top", 0x7F61616161616161L);
        putError("code 32 on top", 0x2061616161616161L);
        putError("all but the highest bit", Long.MAX_VALUE);
        putError("below 0 on top of 8 bits 0", 0xFF00616161616161L);
    }

    private static void putError(String what, long characters) {
        SyllableBook book = new SyllableBook();
        book.put(Check.packed("ab"));
        Check.due("put: " + what, book.put(characters), SyllableBook.BAD_VALUE);
        Check.due("put: " + what + " changes nothing", book.count(6), 2);
        book.word(1);
        Check.same("put: " + what + " leaves the letters", Check.letters(book, 0), "ab");
        Check.fill(book, "aaaaaaaaaaaaaaaa");
        Check.due("put: " + what + " ahead of a full pad", book.put(characters), SyllableBook.BAD_VALUE);
    }

    private static void fullPad() {
        SyllableBook book = new SyllableBook();
        book.put(Check.packed("abcdefab"));
        Check.due("put: 15", book.put(Check.packed("abcdefa")), 15);
        Check.due("put: 2 more", book.put(Check.packed("bc")), SyllableBook.TOO_MANY);
        Check.due("put: 8 more", book.put(Check.packed("abcdefab")), SyllableBook.TOO_MANY);
        Check.due("put: none of them is there", book.count(6), 15);
        Check.due("put: a 16th", book.put('x'), 16);
        Check.due("put: a 17th", book.put('x'), SyllableBook.TOO_MANY);
        Check.due("put: still 16", book.count(6), 16);
        Check.due("put: the 16th is x", book.fault(), 15);
    }

    private static void wipes() {
        SyllableBook book = new SyllableBook();
        Check.due("wipe: an empty pad", book.wipe(), 0);
        book.put(Check.packed("xyz"));
        Check.due("wipe: three", book.wipe(), 3);
        Check.due("wipe: is empty", book.count(6), 0);
        Check.due("wipe: no fault left", book.fault(), SyllableBook.NONE);
        Check.due("wipe: once more", book.wipe(), 0);
        Check.due("wipe: is no change", book.count(7), 0);
        Check.fill(book, "aaaaaaaaaaaaaaaa");
        Check.due("wipe: a full pad", book.wipe(), 16);
        Check.due("wipe: makes room", book.put(Check.packed("ab")), 2);
        book.word(1);
        Check.same("wipe: nothing of it comes back", Check.letters(book, 0), "ab");
    }

    private static void fault(String pad, int place) {
        SyllableBook book = new SyllableBook();
        Check.fill(book, pad);
        Check.due("fault: of " + pad, book.fault(), place);
        Check.due("fault: changes nothing", book.count(6), pad.length());
    }

    private static void faults() {
        fault("", SyllableBook.NONE);
        fault("a", SyllableBook.NONE);
        fault("abcdefabcdefabcd", SyllableBook.NONE);
        fault("g", 0);
        fault("`", 0);
        fault("abg", 2);
        fault("ab~c!", 2);
        fault("A", 0);
        fault("fF", 1);
        fault("aaaaaaaaaaaaaaag", 15);
        fault("~", 0);
        fault("!", 0);
        fault("1a", 0);
    }
}
