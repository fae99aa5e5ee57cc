import java.util.Random;

/** Long runs of calls by chance (with told seeds), each answer compared with the model's. */
public final class RandomTest {
    private static final int RUNS = 120;
    private static final int CALLS = 512;
    private static final int MOST_IN_A_STEP = 5;
    private static final int[] WRONG = {-1, -2, 17, 100, Integer.MAX_VALUE, Integer.MIN_VALUE};

    private final Random random;
    private final String alphabet;
    private final int longest;
    private final SyllableBook book = new SyllableBook();
    private final Model model = new Model();
    private int calls = 0;

    private RandomTest(int seed) {
        random = new Random(seed);
        alphabet = "abcdef".substring(0, 1 + seed % 6);
        longest = seed % 6 == 0 ? 7 : 12;
    }

    public static void main(String[] args) {
        for (int seed = 0; seed < RUNS && !Check.anyWrong(); seed++) {
            RandomTest run = new RandomTest(seed);
            while (run.calls <= CALLS - MOST_IN_A_STEP && !Check.anyWrong()) {
                run.step("seed " + seed + ", call " + run.calls + ": ");
            }
        }
        Check.finish("RandomTest");
    }

    /** A number from 0 to most - 1, seldom one outside. */
    private int near(int most) {
        int chance = random.nextInt(20);
        if (chance == 0) {
            return WRONG[random.nextInt(WRONG.length)];
        }
        return chance == 1 ? most : random.nextInt(Math.max(1, most));
    }

    private String text(int most) {
        StringBuilder text = new StringBuilder();
        int length = 1 + random.nextInt(most);
        for (int i = 0; i < length; i++) {
            text.append(alphabet.charAt(random.nextInt(alphabet.length())));
        }
        return text.toString();
    }

    private void due(String call, long got, long want) {
        calls++;
        Check.due(call, got, want);
    }

    private void put(String at, long characters) {
        due(at + "put(" + characters + ")", book.put(characters), model.put(characters));
    }

    private void fill(String at, String text) {
        if (model.count(6) > 0 && random.nextInt(4) > 0) {
            due(at + "wipe()", book.wipe(), model.wipe());
        }
        for (int from = 0; from < text.length(); from += 8) {
            put(at, Check.packed(text.substring(from, Math.min(from + 8, text.length()))));
        }
    }

    private void step(String at) {
        int kind = random.nextInt(100);
        if (kind < 12) {
            fill(at, text(4));
            int weight = 1 + near(9);
            due(at + "costWith(" + weight + ")", book.costWith(weight), model.costWith(weight));
            due(at + "piece(" + weight + ")", book.piece(weight), model.piece(weight));
        } else if (kind < 18) {
            fill(at, text(random.nextInt(20) == 0 ? 16 : longest));
            int count = 1 + near(random.nextBoolean() ? 3 : 99);
            due(at + "word(" + count + ")", book.word(count), model.word(count));
        } else if (kind < 40) {
            change(at);
        } else if (kind < 44) {
            padCall(at);
        } else {
            ask(at);
        }
    }

    private void change(String at) {
        int piece = near(model.count(0));
        int word = near(model.count(1));
        int weight = 1 + near(9);
        int count = 1 + near(99);
        int slot = near(2);
        int size = random.nextInt(3) == 0 ? near(17) : Math.max(0, model.count(0) - random.nextInt(3));
        switch (random.nextInt(16)) {
            case 0, 1 -> due(at + "weigh(" + piece + ", " + weight + ")", book.weigh(piece, weight), model.weigh(piece, weight));
            case 2 -> due(at + "drop(" + piece + ")", book.drop(piece), model.drop(piece));
            case 3 -> due(at + "recount(" + word + ", " + count + ")", book.recount(word, count), model.recount(word, count));
            case 4 -> due(at + "forget(" + word + ")", book.forget(word), model.forget(word));
            case 5, 6, 7, 8 -> due(at + "grow()", book.grow(), model.grow());
            case 9 -> due(at + "tune()", book.tune(), model.tune());
            case 10, 11 -> due(at + "shrink(" + size + ")", book.shrink(size), model.shrink(size));
            case 12, 13 -> due(at + "undo()", book.undo(), model.undo());
            case 14 -> due(at + "save(" + slot + ")", book.save(slot), model.save(slot));
            default -> due(at + "restore(" + slot + ")", book.restore(slot), model.restore(slot));
        }
    }

    private void padCall(String at) {
        switch (random.nextInt(5)) {
            case 0 -> put(at, random.nextLong() >>> random.nextInt(64));
            case 1 -> put(at, Check.packed(text(8)) << 8 * random.nextInt(3));
            case 2 -> put(at, 30 + random.nextInt(100));
            case 3 -> due(at + "wipe()", book.wipe(), model.wipe());
            default -> due(at + "fault()", book.fault(), model.fault());
        }
    }

    private void ask(String at) {
        int piece = near(model.count(0));
        int word = near(model.count(1));
        int place = near(12);
        int part = near(Math.max(1, model.ofWord(word, 2)));
        int what = near(9);
        switch (random.nextInt(11)) {
            case 0, 1, 2 -> due(at + "ofPiece(" + piece + ", " + what + ")", book.ofPiece(piece, what), model.ofPiece(piece, what));
            case 3 -> due(at + "ofWord(" + word + ", " + what + ")", book.ofWord(word, what), model.ofWord(word, what));
            case 4 -> due(at + "letter(" + word + ", " + place + ")", book.letter(word, place), model.letter(word, place));
            case 5 -> due(at + "product(" + word + ", " + what % 3 + ")", book.product(word, what % 3), model.product(word, what % 3));
            case 6 -> due(at + "part(" + word + ", " + part + ", " + what % 4 + ")", book.part(word, part, what % 4), model.part(word, part, what % 4));
            case 7 -> due(at + "share(" + word + ", " + piece + ")", book.share(word, piece), model.share(word, piece));
            case 8 -> due(at + "count(" + what + ")", book.count(what), model.count(what));
            case 9 -> due(at + "growing(" + what + ")", book.growing(what), model.growing(what));
            default -> due(at + "least()", book.least(), model.least());
        }
    }
}
