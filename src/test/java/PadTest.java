/** Promises 21 to 23: put, wipe, fault. */
public final class PadTest {
    public static void main(String[] args) {
        puts();
        wipes();
        faults();
        Check.finish("PadTest");
    }

    private static void puts() {
        SyllableBook book = new SyllableBook();
        Check.due("put: one", book.put('a'), 1);
        Check.due("put: more", book.put(Check.packed("bc")), 3);
        Check.due("put: the last character is the lowest", book.word(1), 0);
        Check.same("put: in order", Check.letters(book, 0), "abc");
        Check.due("put: eight", book.put(Check.packed("abcdefab")), 8);
        Check.due("put: is no change", book.count(7), 1);
        book.word(2);
        Check.same("put: eight in order", Check.letters(book, 1), "abcdefab");
        Check.due("put: code 33", book.put(33), 1);
        Check.due("put: code 126", book.put(126), 2);
        Check.due("put: eight of code 126", book.put(0x7E7E7E7E7E7E7E7EL), 10);
        Check.due("put: code 33 above", book.put(0x2161), 12);
    }

    private static void wipes() {
        SyllableBook book = new SyllableBook();
        Check.due("wipe: an empty pad", book.wipe(), 0);
        book.put(Check.packed("xyz"));
        Check.due("wipe: three", book.wipe(), 3);
        Check.due("wipe: is empty", book.count(6), 0);
        Check.due("wipe: no fault left", book.fault(), SyllableBook.NONE);
        Check.due("wipe: once more", book.wipe(), 0);
        Check.due("wipe: is no change", book.count(7), 0);
        Check.fill(book, "aaaaaaaaaaaaaaaa");
        Check.due("wipe: a full pad", book.wipe(), 16);
        Check.due("wipe: makes room", book.put(Check.packed("ab")), 2);
        book.word(1);
        Check.same("wipe: nothing of it comes back", Check.letters(book, 0), "ab");
    }

    private static void fault(String pad, int place) {
        SyllableBook book = new SyllableBook();
        Check.fill(book, pad);
        Check.due("fault: of " + pad, book.fault(), place);
        Check.due("fault: changes nothing", book.count(6), pad.length());
    }

    private static void faults() {
        fault("", SyllableBook.NONE);
        fault("a", SyllableBook.NONE);
        fault("abcdefabcdefabcd", SyllableBook.NONE);
        fault("g", 0);
        fault("`", 0);
        fault("abg", 2);
        fault("ab~c!", 2);
        fault("A", 0);
        fault("fF", 1);
        fault("aaaaaaaaaaaaaaag", 15);
        fault("~", 0);
        fault("!", 0);
        fault("1a", 0);
    }
}
