import java.util.ArrayList;
import java.util.List;
import java.util.function.Supplier;
import java.util.function.ToLongFunction;

/** Each call with each argument of a grid, at the edges and far outside, in several states: as the model answers. */
public final class ArgumentsTest {
    private static final int[] GRID = {Integer.MIN_VALUE, Integer.MIN_VALUE + 1, -100, -6, -2, -1, 0, 1, 2, 3, 4, 5, 6, 7, 8, 9, 10,
        11, 12, 13, 15, 16, 17, 31, 32, 33, 97, 98, 99, 100, 127, 128, 255, 256, 65535, 65536, Integer.MAX_VALUE - 1, Integer.MAX_VALUE};
    private static final String[] PADS = {"", "f", "ba", "abc", "fedc", "fedcb", "abcdefabcdef", "abcdefabcdefa", "g", "ab`"};
    private static final int CALLS = 400;

    /** The same state twice, and its name. */
    private record State(String name, Supplier<SyllableBook> book, Supplier<Model> model) {
    }

    private interface BookCall {
        long on(SyllableBook book, int first, int second);
    }

    private interface ModelCall {
        long on(Model model, int first, int second);
    }

    public static void main(String[] args) {
        for (State state : states()) {
            questions(state);
            parts(state);
            changes(state);
            pads(state);
        }
        puts();
        Check.finish("ArgumentsTest");
    }

    // ---- states

    private static List<State> states() {
        List<State> states = new ArrayList<>();
        states.add(state("empty", "", ""));
        states.add(state("few", "a 2,ab 3,cdef 9", "abab 3,fcab 99"));
        states.add(state("full", "a 1,b 2,c 3,d 4,e 5,f 6,aa 7,bb 8,cc 9,dd 1,ee 2,ff 3,aaa 4,bbb 5,ccc 6,abcd 7",
                "a 1,fe 2,abab 3,ddf 4,cafe 5,bbaac 6,abcdefabcdef 99,ff 1"));
        return states;
    }

    private static State state(String name, String pieces, String words) {
        return new State(name, () -> savedBook(pieces, words), () -> savedModel(pieces, words));
    }

    private static SyllableBook savedBook(String pieces, String words) {
        SyllableBook book = Check.book(pieces, words);
        book.save(0);
        return book;
    }

    private static Model savedModel(String pieces, String words) {
        Model model = new Model();
        for (String entry : pieces.isEmpty() ? new String[0] : pieces.split(",")) {
            model.put(Check.packed(entry.split(" ")[0]));
            model.piece(Integer.parseInt(entry.split(" ")[1]));
        }
        for (String entry : words.isEmpty() ? new String[0] : words.split(",")) {
            fill(model, entry.split(" ")[0]);
            model.word(Integer.parseInt(entry.split(" ")[1]));
        }
        model.save(0);
        return model;
    }

    private static void fill(Model model, String pad) {
        for (int from = 0; from < pad.length(); from += 8) {
            model.put(Check.packed(pad.substring(from, Math.min(from + 8, pad.length()))));
        }
    }

    // ---- questions: one object for many calls, as they change nothing

    private static void questions(State state) {
        question(state, "ofPiece", (b, i, j) -> b.ofPiece(i, j), (m, i, j) -> m.ofPiece(i, j));
        question(state, "ofWord", (b, i, j) -> b.ofWord(i, j), (m, i, j) -> m.ofWord(i, j));
        question(state, "letter", (b, i, j) -> b.letter(i, j), (m, i, j) -> m.letter(i, j));
        question(state, "product", (b, i, j) -> b.product(i, j), (m, i, j) -> m.product(i, j));
        question(state, "share", (b, i, j) -> b.share(i, j), (m, i, j) -> m.share(i, j));
        Model model = state.model().get();
        SyllableBook book = state.book().get();
        for (int i : GRID) {
            Check.due(state.name() + ": count(" + i + ")", book.count(i), model.count(i));
            Check.due(state.name() + ": growing(" + i + ")", book.growing(i), model.growing(i));
        }
    }

    private static void question(State state, String name, BookCall onBook, ModelCall onModel) {
        Model model = state.model().get();
        SyllableBook book = state.book().get();
        int calls = 0;
        for (int first : GRID) {
            for (int second : GRID) {
                if (calls++ % CALLS == 0) {
                    book = state.book().get();
                }
                Check.due(state.name() + ": " + name + "(" + first + ", " + second + ")", onBook.on(book, first, second),
                        onModel.on(model, first, second));
            }
        }
    }

    private static void parts(State state) {
        for (int what : GRID) {
            question(state, "part what " + what, (b, i, j) -> b.part(i, j, what), (m, i, j) -> m.part(i, j, what));
        }
    }

    // ---- changes: a new object for each

    private static void changes(State state) {
        for (int first : GRID) {
            change(state, "drop(" + first + ")", b -> b.drop(first), m -> m.drop(first));
            change(state, "forget(" + first + ")", b -> b.forget(first), m -> m.forget(first));
            change(state, "shrink(" + first + ")", b -> b.shrink(first), m -> m.shrink(first));
            change(state, "save(" + first + ")", b -> b.save(first), m -> m.save(first));
            change(state, "restore(" + first + ")", b -> b.restore(first), m -> m.restore(first));
            for (int second : GRID) {
                String both = "(" + first + ", " + second + ")";
                change(state, "weigh" + both, b -> b.weigh(first, second), m -> m.weigh(first, second));
                change(state, "recount" + both, b -> b.recount(first, second), m -> m.recount(first, second));
            }
        }
    }

    private static void pads(State state) {
        for (String pad : PADS) {
            for (int number : GRID) {
                String rest = "(" + number + ") with " + pad;
                filled(state, "piece" + rest, pad, b -> b.piece(number), m -> m.piece(number));
                filled(state, "word" + rest, pad, b -> b.word(number), m -> m.word(number));
                filled(state, "costWith" + rest, pad, b -> b.costWith(number), m -> m.costWith(number));
            }
        }
    }

    private static void filled(State state, String name, String pad, ToLongFunction<SyllableBook> onBook,
            ToLongFunction<Model> onModel) {
        change(state, name, b -> {
            Check.fill(b, pad);
            return onBook.applyAsLong(b);
        }, m -> {
            fill(m, pad);
            return onModel.applyAsLong(m);
        });
    }

    private static void change(State state, String name, ToLongFunction<SyllableBook> onBook, ToLongFunction<Model> onModel) {
        SyllableBook book = state.book().get();
        Model model = state.model().get();
        Check.due(state.name() + ": " + name, onBook.applyAsLong(book), onModel.applyAsLong(model));
        String after = state.name() + ": after " + name + ", ";
        Check.due(after + "pieces", book.count(0), model.count(0));
        Check.due(after + "words", book.count(1), model.count(1));
        Check.due(after + "cost", book.count(2), model.count(2));
        Check.due(after + "pad", book.count(6), model.count(6));
        Check.due(after + "history", book.count(7), model.count(7));
        Check.due(after + "restore(1)", book.restore(1), model.restore(1));
        for (int piece = 0; piece < model.count(0); piece++) {
            Check.due(after + "weight of " + piece, book.ofPiece(piece, 1), model.weight(piece));
        }
        for (int word = 0; word < model.count(1); word++) {
            Check.due(after + "count of " + word, book.ofWord(word, 1), model.times(word));
        }
    }

    // ---- put

    private static void puts() {
        long[] bytes = {0, 1, 32, 33, 97, 126, 127, 128, 255};
        for (String pad : new String[] {"", "abcdefab", "abcdefabcdefab", "abcdefabcdefabcd"}) {
            for (int upper = 0; upper < 8; upper++) {
                for (int lower = 0; lower < 8; lower++) {
                    for (long one : bytes) {
                        for (long other : bytes) {
                            put(pad, one << 8 * upper | other << 8 * lower);
                            put(pad, 0x6161616161616161L & ~(255L << 8 * upper) & ~(255L << 8 * lower) | one << 8 * upper
                                    | other << 8 * lower);
                        }
                    }
                }
            }
        }
    }

    private static void put(String pad, long characters) {
        SyllableBook book = new SyllableBook();
        Model model = new Model();
        Check.fill(book, pad);
        fill(model, pad);
        String name = "put(" + characters + ") behind " + pad;
        Check.due(name, book.put(characters), model.put(characters));
        Check.due(name + ", the pad", book.count(6), model.count(6));
        Check.due(name + ", the fault", book.fault(), model.fault());
    }
}
