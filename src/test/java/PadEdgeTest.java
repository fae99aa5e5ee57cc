import java.util.function.ToLongFunction;

/** The edges of promises 21 to 26: the pad, undo, saving. */
public final class PadEdgeTest {
    private static final String SIXTEEN_A = "aaaaaaaaaaaaaaaa";
    private static final int[] NO_SLOTS = {-1, 2, 3, -2, 256, 65536, Edge.LEAST, Edge.LEAST + 1, Edge.GREATEST};

    public static void main(String[] args) {
        putInOrder();
        putCharacters();
        putNothing();
        putCodes();
        putBitsAbove();
        putNoMore();
        putTooMany();
        putErrorOrder();
        wipe();
        fault();
        undoAll();
        undoSixStates();
        undoEachChange();
        undoNoErrors();
        undoNone();
        save();
        saveSlots();
        restore();
        restoreErrors();
        Check.finish("PadEdgeTest");
    }

    // ---- promise 21

    private static String taken(String... puts) {
        SyllableBook book = new SyllableBook();
        for (String put : puts) {
            book.put(Check.packed(put));
        }
        book.word(1);
        return Check.letters(book, 0);
    }

    private static void putInOrder() {
        Edge.promise(21, "its lowest 8 bits are the last character, the next 8 bits the one before, and so on");
        Edge.same("one", taken("f"), "f");
        Edge.same("two", taken("fe"), "fe");
        Edge.same("eight", taken("abcdeffe"), "abcdeffe");
        Edge.promise(21, "Appends characters to the pad.");
        Edge.same("behind what is there", taken("ab", "c", "def"), "abcdef");
        Edge.same("eight and four", taken("abcdeffe", "dcba"), "abcdeffedcba");
    }

    private static void putCharacters() {
        Edge.promise(21, "`characters`: 1 to 8 characters");
        for (int given = 1; given <= 8; given++) {
            SyllableBook book = new SyllableBook();
            Edge.due(given + " of them", book.put(Check.packed("abcdefab".substring(0, given))), given);
            Edge.due(given + " of them are there", book.count(6), given);
        }
        Edge.promise(21, "Returns the length of the pad then");
        SyllableBook book = new SyllableBook();
        for (int length = 1; length <= 16; length++) {
            Edge.due("one more", book.put('~'), length);
        }
        Edge.due("is no change", book.count(7), 0);
    }

    private static void putNothing() {
        Edge.promise(21, "BAD_VALUE if there is no character");
        Edge.refused("empty", Edge.empty(""), book -> book.put(0), Edge.BAD_VALUE);
        Edge.refused("few", Edge.few("ab"), book -> book.put(0), Edge.BAD_VALUE);
        Edge.refused("full", Edge.full(SIXTEEN_A), book -> book.put(0), Edge.BAD_VALUE);
    }

    /** Eight letters a, one of them another code. */
    private static long withCode(int place, int code) {
        return 0x6161616161616161L & ~(255L << 8 * place) | (long) code << 8 * place;
    }

    private static void putCodes() {
        Edge.promise(21, "a code is not 33 to 126");
        for (int place = 0; place < 8; place++) {
            for (int code = 1; code <= 255; code++) {
                SyllableBook book = Edge.empty("f").get();
                boolean fits = code >= 33 && code <= 126;
                Edge.due("code " + code + " with " + place + " behind it", book.put(withCode(place, code)), fits ? 9 : Edge.BAD_VALUE);
                Edge.due("code " + code + " with " + place + " behind it, length", book.count(6), fits ? 9 : 1);
            }
            for (int code : new int[] {1, 32, 127, 128, 255}) {
                long characters = withCode(place, code);
                Edge.refused("code " + code + " with " + place + " behind it", Edge.few("ab"),
                        book -> book.put(characters), Edge.BAD_VALUE);
            }
        }
        for (int code = 0; code <= 256; code++) {
            Edge.due("code " + code + " alone", new SyllableBook().put(code), code >= 33 && code <= 126 ? 1 : Edge.BAD_VALUE);
        }
        Edge.refused("all bits", Edge.few("ab"), book -> book.put(-1), Edge.BAD_VALUE);
        Edge.refused("the greatest", Edge.few("ab"), book -> book.put(Long.MAX_VALUE), Edge.BAD_VALUE);
    }

    private static void putBitsAbove() {
        Edge.promise(21, "a bit above 8 bits that are 0 is not 0");
        for (int given = 0; given <= 6; given++) {
            long characters = given == 0 ? 0 : Check.packed("abcdef".substring(0, given));
            for (int bit = 8 * given + 8; bit < 64; bit++) {
                long wrong = characters | 1L << bit;
                Edge.due("bit " + bit + " above " + given, new SyllableBook().put(wrong), Edge.BAD_VALUE);
                Edge.refused("bit " + bit + " above " + given, Edge.few("ab"), book -> book.put(wrong), Edge.BAD_VALUE);
            }
            for (int place = given + 1; place < 8; place++) {
                long wrong = characters | 97L << 8 * place;
                Edge.due("a at " + place + " above " + given, new SyllableBook().put(wrong), Edge.BAD_VALUE);
            }
            long right = characters << 8 | 97;
            Edge.due("none above " + (given + 1), new SyllableBook().put(right), given + 1);
        }
        Edge.refused("the least", Edge.few("ab"), book -> book.put(Long.MIN_VALUE), Edge.BAD_VALUE);
    }

    private static void putNoMore() {
        Edge.promise(21, "8 bits that are 0 mean that there are no more characters, and everything above them has to be 0, too");
        Edge.due("8 bits of 0 above one", new SyllableBook().put(0x61L), 1);
        Edge.due("8 bits of 0 above seven", new SyllableBook().put(0x61616161616161L), 7);
        Edge.due("no bits left above eight", new SyllableBook().put(0x6161616161616161L), 8);
        for (int place = 0; place < 7; place++) {
            long gap = withCode(place, 0);
            Edge.refused("0 among eight, " + place + " behind it", Edge.few("ab"), book -> book.put(gap), Edge.BAD_VALUE);
        }
        Edge.due("0 on top of eight", new SyllableBook().put(withCode(7, 0)), 7);
    }

    private static void putTooMany() {
        Edge.promise(21, "TOO_MANY if the pad would be longer than 16");
        for (int there = 0; there <= 16; there++) {
            for (int given = 1; given <= 8; given++) {
                String pad = SIXTEEN_A.substring(0, there);
                long characters = Check.packed("ffffffff".substring(0, given));
                boolean fits = there + given <= 16;
                String which = given + " to " + there;
                Edge.due(which, Edge.empty(pad).get().put(characters), fits ? there + given : Edge.TOO_MANY);
                if (!fits) {
                    Edge.refused(which + ", few", Edge.few(pad), book -> book.put(characters), Edge.TOO_MANY);
                }
            }
        }
        SyllableBook book = Edge.few(SIXTEEN_A).get();
        Edge.due("a 17th", book.put('a'), Edge.TOO_MANY);
        book.wipe();
        Edge.due("the first, once it is empty", book.put('a'), 1);
    }

    private static void putErrorOrder() {
        Edge.promise(21, "BAD_VALUE if there is no character, a code is not 33 to 126, or a bit above 8 bits that are 0 is not 0; "
                + "TOO_MANY if the pad would be longer than 16.");
        for (long characters : new long[] {0, 32, 127, 0x2061, 0x6120, 0x610061, -1, Long.MIN_VALUE}) {
            Edge.refused("both, " + characters, Edge.few(SIXTEEN_A), book -> book.put(characters), Edge.BAD_VALUE);
        }
    }

    // ---- promises 22, 23

    private static void wipe() {
        Edge.promise(22, "Empties the pad, and returns the length that it had.");
        for (int length = 0; length <= 16; length++) {
            SyllableBook book = Edge.few(SIXTEEN_A.substring(0, length)).get();
            Edge.due("length " + length, book.wipe(), length);
            Edge.due("length " + length + " then", book.count(6), 0);
            Edge.due("length " + length + ", once more", book.wipe(), 0);
            Edge.due("is no change", book.count(7), 5);
        }
        SyllableBook book = Edge.empty("xyz").get();
        book.wipe();
        Edge.due("no fault is left", book.fault(), Edge.NONE);
        book.put(Check.packed("ab"));
        Edge.due("nor any letter", book.word(1), 0);
        Edge.same("nor any letter", Check.letters(book, 0), "ab");
        Edge.unchanged("an empty pad", Edge.few(""), SyllableBook::wipe);
    }

    private static void fault() {
        Edge.promise(23, "Returns the index of the first character of the pad that is no letter from a to f");
        for (int place = 0; place < 16; place++) {
            String pad = SIXTEEN_A.substring(0, place) + "g" + SIXTEEN_A.substring(place + 1);
            Edge.due("a g at " + place, Edge.empty(pad).get().fault(), place);
            Edge.due("a ` at the end, " + place, Edge.empty(SIXTEEN_A.substring(0, place) + "`").get().fault(), place);
        }
        Edge.due("the first of two", Edge.empty("abgxd").get().fault(), 2);
        for (char sign = 33; sign <= 126; sign++) {
            Edge.due("code " + (int) sign, Edge.empty("a" + sign + "b").get().fault(), sign >= 'a' && sign <= 'f' ? Edge.NONE : 1);
        }
        Edge.promise(23, "NONE if there is none");
        for (int length = 0; length <= 16; length++) {
            Edge.due(length + " letters", Edge.empty("abcdeffedcbaabcd".substring(0, length)).get().fault(), Edge.NONE);
        }
        SyllableBook cleared = Edge.empty("g").get();
        cleared.wipe();
        Edge.due("what was wiped", cleared.fault(), Edge.NONE);
        cleared.put('a');
        Edge.due("what was wiped, under a letter", cleared.fault(), Edge.NONE);
        Edge.unchanged("with a fault", Edge.few("abg"), SyllableBook::fault);
        Edge.unchanged("without", Edge.few("ab"), SyllableBook::fault);
    }

    // ---- promise 24

    private static void undoAll() {
        Edge.promise(24, "everything except the pad, the slots and the history is as it was before it");
        SyllableBook book = Edge.few("abg").get();
        book.weigh(0, 9);
        book.put('x');
        book.save(0);
        Edge.due("undo", book.undo(), 5);
        Edge.same("weights", Check.contents(book), "a 2,ab 3,cdef 9, /abab 3,fc 99,");
        Edge.due("the pad", book.count(6), 4);
        Edge.due("the pad's fault", book.fault(), 2);
        book.restore(0);
        Edge.same("the slot", Check.contents(book), "a 9,ab 3,cdef 9, /abab 3,fc 99,");
        SyllableBook taken = Edge.empty("ab").get();
        taken.piece(1);
        taken.undo();
        Edge.due("what piece took from the pad isn't put back", taken.count(6), 0);
        SyllableBook word = Edge.few("ab").get();
        word.word(1);
        word.undo();
        Edge.due("what word took from the pad isn't put back", word.count(6), 0);
    }

    private static void undoSixStates() {
        Edge.promise(24, "A history of at most 6 states is kept");
        for (int changes = 0; changes <= 9; changes++) {
            SyllableBook book = new SyllableBook();
            for (int i = 0; i < changes; i++) {
                book.shrink(16);
            }
            int kept = Math.min(6, changes);
            Edge.due(changes + " changes", book.count(7), kept);
            for (int left = kept - 1; left >= 0; left--) {
                Edge.due(changes + " changes, undo", book.undo(), left);
            }
            Edge.due(changes + " changes, once more", book.undo(), Edge.NOT_POSSIBLE);
        }
        Edge.promise(24, "when one more is recorded, the oldest one is dropped");
        SyllableBook book = new SyllableBook();
        String[] states = new String[20];
        for (int i = 0; i < 20; i++) {
            states[i] = Check.contents(book);
            if (i < 8) {
                Check.word(book, "fed", 1 + i);
            } else {
                book.recount(i % 8, 90 - i);
            }
            Edge.due("changes to undo", book.count(7), Math.min(6, i + 1));
        }
        for (int i = 19; i >= 14; i--) {
            Edge.due("undo to state " + i, book.undo(), i - 14);
            Edge.same("state " + i, Check.contents(book), states[i]);
        }
        Edge.due("state 13 was dropped", book.undo(), Edge.NOT_POSSIBLE);
        Edge.same("state 14 stays", Check.contents(book), states[14]);
    }

    private static void recorded(String name, ToLongFunction<SyllableBook> call) {
        SyllableBook book = Edge.few("fed").get();
        book.save(0);
        String before = Check.contents(book);
        Edge.due(name + " returns no error", Math.min(0, call.applyAsLong(book)), 0);
        Edge.due(name + " is recorded", book.count(7), 6);
        Edge.due(name + " is undone", book.undo(), 5);
        Edge.same(name + " is undone", Check.contents(book), before);
    }

    private static void undoEachChange() {
        Edge.promise(24, "each method that is a change, and returns no error, records the state before it");
        recorded("piece", book -> book.piece(1));
        recorded("weigh", book -> book.weigh(1, 7));
        recorded("drop", book -> book.drop(1));
        recorded("word", book -> book.word(1));
        recorded("recount", book -> book.recount(1, 7));
        recorded("forget", book -> book.forget(0));
        recorded("grow", SyllableBook::grow);
        recorded("tune", SyllableBook::tune);
        recorded("shrink", book -> book.shrink(1));
        recorded("restore", book -> book.restore(1));
        Edge.promise(24, "(also if nothing is different then)");
        recorded("weigh to the same", book -> book.weigh(1, 3));
        recorded("recount to the same", book -> book.recount(1, 99));
        recorded("shrink by none", book -> book.shrink(3));
        recorded("restore to the same", book -> book.restore(0));
        SyllableBook empty = new SyllableBook();
        empty.tune();
        empty.shrink(0);
        Edge.due("tune and shrink of an empty book", empty.count(7), 2);
        SyllableBook tuned = Check.book("a 3", "a 1");
        tuned.tune();
        Edge.due("tune to the same", tuned.tune(), 0);
        Edge.due("tune to the same is recorded", tuned.count(7), 4);
    }

    private static void undoNoErrors() {
        Edge.promise(24, "and returns no error");
        SyllableBook book = Edge.full("abg").get();
        book.undo();
        book.undo();
        book.forget(0);
        int before = book.count(7);
        Edge.due("5 states ahead of them", before, 5);
        long errors = book.piece(1) + book.word(1) + book.weigh(16, 1) + book.weigh(0, 0) + book.drop(16) + book.recount(9, 1)
                + book.recount(0, 0) + book.forget(9) + book.grow() + book.shrink(17) + book.restore(2) + book.save(2);
        Edge.due("the errors", errors, -3 - 3 - 1 - 2 - 1 - 1 - 2 - 1 - 4 - 2 - 2 - 2);
        Edge.due("none is recorded", book.count(7), 5);
        Edge.due("save is no change", book.save(0) + book.count(7), 16 + 5);
        Edge.due("put is no change", book.put('a') + book.count(7), 4 + 5);
        Edge.due("wipe is no change", book.wipe() + book.count(7), 4 + 5);
        Edge.due("undo is no change", book.undo() + book.count(7), 4 + 4);
    }

    private static void undoNone() {
        Edge.promise(24, "NOT_POSSIBLE if there is none");
        Edge.refused("a new object", Edge.empty("ab"), SyllableBook::undo, Edge.NOT_POSSIBLE);
        Edge.refused("all is undone", () -> {
            SyllableBook book = Edge.full("ab").get();
            for (int i = 0; i < 6; i++) {
                book.undo();
            }
            return book;
        }, SyllableBook::undo, Edge.NOT_POSSIBLE);
        Edge.promise(24, "Returns how many changes can be undone then");
        SyllableBook book = Check.book("a 1", "");
        Edge.due("the only one", book.undo(), 0);
        Edge.due("none", book.undo(), Edge.NOT_POSSIBLE);
        Check.piece(book, "b", 1);
        Edge.due("a new one", book.count(7), 1);
        Edge.due("the new one", book.undo(), 0);
        Edge.same("an empty book again", Check.contents(book), " /");
    }

    // ---- promise 25

    private static void save() {
        Edge.promise(25, "Returns how many pieces there are");
        Edge.due("none", new SyllableBook().save(0), 0);
        Edge.due("16", Edge.full("").get().save(1), 16);
        Edge.promise(25, "and overwrites what was saved there");
        SyllableBook book = Edge.few("").get();
        book.save(0);
        book.shrink(0);
        book.save(0);
        book.undo();
        Edge.due("restore", book.restore(0), 0);
        Edge.same("what was saved last", Check.contents(book), " /abab 3,fc 99,");
        Edge.due("the other slot stays", book.restore(1), 2);
        Edge.same("the other slot", Check.contents(book), "a 2,ab 3, /");
        Edge.promise(25, "Saves everything except the pad, the history and the slots in a slot");
        SyllableBook all = Edge.full("abg").get();
        String before = Check.contents(all);
        Edge.due("save", all.save(0), 16);
        Edge.due("the pad stays", all.count(6), 3);
        Edge.due("it is no change", all.count(7), 6);
        all.forget(7);
        all.drop(15);
        all.drop(0);
        all.forget(0);
        all.wipe();
        Edge.due("restore", all.restore(0), 16);
        Edge.same("all of a full book", Check.contents(all), before);
        Edge.due("the pad isn't brought back", all.count(6), 0);
        Edge.due("nor is the history", all.count(7), 6);
        all.undo();
        Edge.due("the latest change is the restore", all.count(0), 14);
    }

    private static void saveSlots() {
        Edge.promise(25, "`slot`: 0 or 1");
        for (int slot = 0; slot <= 1; slot++) {
            SyllableBook book = Edge.empty("a").get();
            Edge.due("save " + slot, book.save(slot), 0);
            Edge.due("restore " + slot, book.restore(slot), 0);
            Edge.due("the other one", book.restore(1 - slot), Edge.NOT_POSSIBLE);
        }
        Edge.promise(25, "BAD_VALUE if there is no such slot");
        for (int slot : NO_SLOTS) {
            Edge.refused("slot " + slot + ", empty", Edge.empty("ab"), book -> book.save(slot), Edge.BAD_VALUE);
            Edge.refused("slot " + slot + ", few", Edge.few("ab"), book -> book.save(slot), Edge.BAD_VALUE);
            Edge.refused("slot " + slot + ", full", Edge.full("ab"), book -> book.save(slot), Edge.BAD_VALUE);
        }
    }

    // ---- promise 26

    private static void restore() {
        Edge.promise(26, "Restores what was saved last in a slot, which keeps it.");
        SyllableBook book = Edge.few("ab").get();
        for (int i = 0; i < 3; i++) {
            Edge.due("restore", book.restore(1), 2);
            Edge.same("what was saved", Check.contents(book), "a 2,ab 3, /");
            book.weigh(0, 1 + i);
            book.drop(1);
            Check.word(book, "f", 1);
        }
        Edge.promise(26, "This is a change.");
        SyllableBook change = Edge.few("xyz").get();
        String before = Check.contents(change);
        change.restore(1);
        Edge.due("one more to undo", change.count(7), 6);
        Edge.due("the pad stays", change.count(6), 3);
        Edge.due("undo", change.undo(), 5);
        Edge.same("as it was", Check.contents(change), before);
        Edge.due("the slot still has it", change.restore(1), 2);
        Edge.promise(26, "Returns how many pieces there are then");
        SyllableBook none = new SyllableBook();
        none.save(0);
        Check.piece(none, "a", 1);
        Edge.due("none", none.restore(0), 0);
        SyllableBook full = Edge.full("").get();
        full.save(1);
        full.shrink(0);
        Edge.due("16", full.restore(1), 16);
    }

    private static void restoreErrors() {
        Edge.promise(26, "`slot`: 0 or 1");
        for (int slot = -1; slot <= 2; slot++) {
            SyllableBook book = Edge.full("").get();
            Edge.due("slot " + slot, book.restore(slot), slot == 0 ? 11 : slot == 1 ? 16 : Edge.BAD_VALUE);
            Edge.due("slot " + slot + ", words then", book.count(1), slot == 0 || slot == 1 ? 1 : 8);
        }
        Edge.promise(26, "BAD_VALUE if there is no such slot");
        for (int slot : NO_SLOTS) {
            Edge.refused("slot " + slot + ", empty", Edge.empty("ab"), book -> book.restore(slot), Edge.BAD_VALUE);
            Edge.refused("slot " + slot + ", few", Edge.few("ab"), book -> book.restore(slot), Edge.BAD_VALUE);
            Edge.refused("slot " + slot + ", full", Edge.full("ab"), book -> book.restore(slot), Edge.BAD_VALUE);
        }
        Edge.promise(26, "NOT_POSSIBLE if nothing was saved in it");
        Edge.refused("slot 0, empty", Edge.empty("ab"), book -> book.restore(0), Edge.NOT_POSSIBLE);
        Edge.refused("slot 1, empty", Edge.empty("ab"), book -> book.restore(1), Edge.NOT_POSSIBLE);
        Edge.refused("slot 0, while slot 1 has something", Edge.few("ab"), book -> book.restore(0), Edge.NOT_POSSIBLE);
        Edge.refused("slot 1, while slot 0 has something", () -> {
            SyllableBook book = Check.book("a 1", "abc 1");
            book.save(0);
            return book;
        }, book -> book.restore(1), Edge.NOT_POSSIBLE);
        Edge.refused("a save that was refused saved nothing", () -> {
            SyllableBook book = Check.book("a 1", "abc 1");
            book.save(2);
            book.save(-1);
            return book;
        }, book -> book.restore(0) + book.restore(1), 2L * Edge.NOT_POSSIBLE);
        SyllableBook undone = Check.book("a 1", "");
        undone.save(0);
        undone.undo();
        Edge.due("undo takes no save back", undone.restore(0), 1);
    }
}
