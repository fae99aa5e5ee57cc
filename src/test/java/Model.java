import java.util.ArrayList;
import java.util.Comparator;
import java.util.LinkedHashMap;
import java.util.List;
import java.util.Map;

/** The document once more, told plainly and slowly: every cut of a word is written out. */
final class Model {
    record Piece(String text, int weight) {
    }

    record Word(String text, int count) {
    }

    record Growth(String text, int times, int weight) {
    }

    private List<Piece> pieces = new ArrayList<>();
    private List<Word> words = new ArrayList<>();
    private String pad = "";
    private final List<List<Piece>> pastPieces = new ArrayList<>();
    private final List<List<Word>> pastWords = new ArrayList<>();
    private final List<List<Piece>> slotPieces = new ArrayList<>(List.of(List.of(), List.of()));
    private final List<List<Word>> slotWords = new ArrayList<>(List.of(List.of(), List.of()));
    private final boolean[] saved = new boolean[2];

    private void record() {
        pastPieces.add(new ArrayList<>(pieces));
        pastWords.add(new ArrayList<>(words));
        if (pastPieces.size() > 6) {
            pastPieces.remove(0);
            pastWords.remove(0);
        }
    }

    // ---- cuts

    private static Piece find(List<Piece> book, String text) {
        for (Piece piece : book) {
            if (piece.text().equals(text)) {
                return piece;
            }
        }
        return null;
    }

    private static List<List<String>> cuts(List<Piece> book, String word) {
        List<List<String>> found = new ArrayList<>();
        if (word.isEmpty()) {
            found.add(List.of());
            return found;
        }
        for (int length = 1; length <= Math.min(4, word.length()); length++) {
            String first = word.substring(0, length);
            if (length == 1 || find(book, first) != null) {
                for (List<String> rest : cuts(book, word.substring(length))) {
                    List<String> cut = new ArrayList<>();
                    cut.add(first);
                    cut.addAll(rest);
                    found.add(cut);
                }
            }
        }
        return found;
    }

    private static int weightOf(List<Piece> book, String part) {
        Piece piece = find(book, part);
        return piece == null ? 1 : piece.weight();
    }

    private static long productOf(List<Piece> book, List<String> cut) {
        long product = 1;
        for (String part : cut) {
            product *= weightOf(book, part);
        }
        return product;
    }

    private static List<String> best(List<Piece> book, String word) {
        List<String> best = null;
        for (List<String> cut : cuts(book, word)) {
            if (best == null || isBetter(book, cut, best)) {
                best = cut;
            }
        }
        return best;
    }

    private static boolean isBetter(List<Piece> book, List<String> one, List<String> other) {
        long product = productOf(book, one);
        long otherProduct = productOf(book, other);
        if (product != otherProduct) {
            return product > otherProduct;
        }
        if (one.size() != other.size()) {
            return one.size() < other.size();
        }
        for (int i = 0; i < one.size(); i++) {
            if (one.get(i).length() != other.get(i).length()) {
                return one.get(i).length() > other.get(i).length();
            }
        }
        return false;
    }

    private static int unseen(List<Piece> book, List<String> cut) {
        int unseen = 0;
        for (String part : cut) {
            unseen += find(book, part) == null ? 1 : 0;
        }
        return unseen;
    }

    private static int costOf(List<Piece> book, Word word) {
        List<String> cut = best(book, word.text());
        return (cut.size() + unseen(book, cut)) * word.count();
    }

    private int costOfAll(List<Piece> book) {
        int cost = 0;
        for (Word word : words) {
            cost += costOf(book, word);
        }
        return cost;
    }

    private int loss(int piece) {
        List<Piece> without = new ArrayList<>(pieces);
        without.remove(piece);
        return costOfAll(without) - costOfAll(pieces);
    }

    private long total(String word) {
        long total = 0;
        for (List<String> cut : cuts(pieces, word)) {
            total += productOf(pieces, cut);
        }
        return total;
    }

    private int shareIn(String word, Piece piece) {
        long sum = 0;
        for (List<String> cut : cuts(pieces, word)) {
            for (String part : cut) {
                sum += part.equals(piece.text()) ? productOf(pieces, cut) : 0;
            }
        }
        return (int) (1000 * sum / total(word));
    }

    private int borne(Piece piece) {
        int sum = 0;
        for (Word word : words) {
            sum += word.count() * shareIn(word.text(), piece);
        }
        return sum;
    }

    private Growth growth() {
        Map<String, Growth> found = new LinkedHashMap<>();
        for (Word word : words) {
            List<String> cut = best(pieces, word.text());
            for (int i = 1; i < cut.size(); i++) {
                String text = cut.get(i - 1) + cut.get(i);
                if (text.length() <= 4 && find(pieces, text) == null) {
                    int weight = Math.min(weightOf(pieces, cut.get(i - 1)), weightOf(pieces, cut.get(i)));
                    Growth seen = found.getOrDefault(text, new Growth(text, 0, weight));
                    found.put(text, new Growth(text, seen.times() + word.count(), seen.weight()));
                }
            }
        }
        return found.values().stream()
                .min(Comparator.comparingInt((Growth g) -> -g.times())
                        .thenComparingInt(g -> g.text().length())
                        .thenComparing(Growth::text))
                .orElse(null);
    }

    // ---- changes

    private boolean isPad(int most) {
        return pad.matches("[a-f]{1," + most + "}");
    }

    private int newPieceError(int weight) {
        return !isPad(4) ? -3 : weight < 1 || weight > 9 ? -2 : pieces.size() == 16 ? -4
                : find(pieces, pad) != null ? -5 : 0;
    }

    int piece(int weight) {
        int error = newPieceError(weight);
        if (error != 0) {
            return error;
        }
        record();
        pieces.add(new Piece(pad, weight));
        pad = "";
        return pieces.size() - 1;
    }

    int weigh(int piece, int weight) {
        if (!isPiece(piece)) {
            return -1;
        }
        if (weight < 1 || weight > 9) {
            return -2;
        }
        record();
        return pieces.set(piece, new Piece(pieces.get(piece).text(), weight)).weight();
    }

    int drop(int piece) {
        if (!isPiece(piece)) {
            return -1;
        }
        record();
        pieces.remove(piece);
        return pieces.size();
    }

    int word(int count) {
        if (!isPad(12)) {
            return -3;
        }
        if (count < 1 || count > 99) {
            return -2;
        }
        if (words.size() == 8) {
            return -4;
        }
        record();
        words.add(new Word(pad, count));
        pad = "";
        return words.size() - 1;
    }

    int recount(int word, int count) {
        if (!isWord(word)) {
            return -1;
        }
        if (count < 1 || count > 99) {
            return -2;
        }
        record();
        return words.set(word, new Word(words.get(word).text(), count)).count();
    }

    int forget(int word) {
        if (!isWord(word)) {
            return -1;
        }
        record();
        words.remove(word);
        return words.size();
    }

    int grow() {
        if (pieces.size() == 16) {
            return -4;
        }
        Growth growth = growth();
        if (growth == null) {
            return -5;
        }
        record();
        pieces.add(new Piece(growth.text(), growth.weight()));
        return pieces.size() - 1;
    }

    int tune() {
        record();
        int greatest = 0;
        for (Piece piece : pieces) {
            greatest = Math.max(greatest, borne(piece));
        }
        List<Piece> tuned = new ArrayList<>();
        int changed = 0;
        for (Piece piece : pieces) {
            int weight = greatest == 0 ? 1 : 1 + 8 * borne(piece) / greatest;
            changed += weight != piece.weight() ? 1 : 0;
            tuned.add(new Piece(piece.text(), weight));
        }
        pieces = tuned;
        return changed;
    }

    int shrink(int size) {
        if (size < 0 || size > 16) {
            return -2;
        }
        record();
        int dropped = 0;
        while (pieces.size() > size) {
            pieces.remove(least());
            dropped++;
        }
        return dropped;
    }

    // ---- what there is

    private boolean isPiece(int piece) {
        return piece >= 0 && piece < pieces.size();
    }

    private boolean isWord(int word) {
        return word >= 0 && word < words.size();
    }

    private static int letterIn(String text, int place) {
        return place < text.length() ? text.charAt(place) - 'a' : -6;
    }

    int weight(int piece) {
        return pieces.get(piece).weight();
    }

    int times(int word) {
        return words.get(word).count();
    }

    int ofPiece(int number, int what) {
        if (!isPiece(number)) {
            return -1;
        }
        if (what < 0 || what > 8) {
            return -2;
        }
        Piece piece = pieces.get(number);
        int times = 0;
        for (Word word : words) {
            for (String part : best(pieces, word.text())) {
                times += part.equals(piece.text()) ? word.count() : 0;
            }
        }
        return what == 0 ? piece.text().length() : what == 1 ? piece.weight()
                : what <= 5 ? letterIn(piece.text(), what - 2) : what == 6 ? times
                : what == 7 ? loss(number) + 100000 : borne(piece);
    }

    int ofWord(int number, int what) {
        if (!isWord(number)) {
            return -1;
        }
        Word word = words.get(number);
        List<String> cut = best(pieces, word.text());
        return switch (what) {
            case 0 -> word.text().length();
            case 1 -> word.count();
            case 2 -> cut.size();
            case 3 -> unseen(pieces, cut);
            case 4 -> costOf(pieces, word);
            case 5 -> cuts(pieces, word.text()).size();
            default -> -2;
        };
    }

    int letter(int word, int place) {
        if (!isWord(word) || place < 0 || place >= words.get(word).text().length()) {
            return -1;
        }
        return letterIn(words.get(word).text(), place);
    }

    long product(int number, int what) {
        if (!isWord(number)) {
            return -1;
        }
        String word = words.get(number).text();
        return what == 0 ? total(word) : what == 1 ? productOf(pieces, best(pieces, word)) : -2;
    }

    int part(int number, int part, int what) {
        if (!isWord(number)) {
            return -1;
        }
        List<String> cut = best(pieces, words.get(number).text());
        if (part < 0 || part >= cut.size()) {
            return -1;
        }
        if (what < 0 || what > 2) {
            return -2;
        }
        Piece piece = find(pieces, cut.get(part));
        return what == 0 ? (piece == null ? -6 : pieces.indexOf(piece))
                : what == 1 ? String.join("", cut.subList(0, part)).length() : cut.get(part).length();
    }

    int share(int word, int piece) {
        return isWord(word) && isPiece(piece) ? shareIn(words.get(word).text(), pieces.get(piece)) : -1;
    }

    int count(int what) {
        int letters = 0;
        int parts = 0;
        int unseen = 0;
        for (Word word : words) {
            List<String> cut = best(pieces, word.text());
            letters += word.text().length() * word.count();
            parts += cut.size() * word.count();
            unseen += unseen(pieces, cut) * word.count();
        }
        return switch (what) {
            case 0 -> pieces.size();
            case 1 -> words.size();
            case 2 -> costOfAll(pieces);
            case 3 -> letters;
            case 4 -> parts;
            case 5 -> unseen;
            case 6 -> pad.length();
            case 7 -> pastPieces.size();
            default -> -2;
        };
    }

    // ---- what if

    int costWith(int weight) {
        int error = newPieceError(weight);
        if (error != 0) {
            return error;
        }
        List<Piece> more = new ArrayList<>(pieces);
        more.add(new Piece(pad, weight));
        return costOfAll(more);
    }

    int growing(int what) {
        if (what < 0 || what > 6) {
            return -2;
        }
        Growth growth = growth();
        return growth == null ? -6 : what == 0 ? growth.text().length() : what == 1 ? growth.times()
                : what == 2 ? growth.weight() : letterIn(growth.text(), what - 3);
    }

    int least() {
        int least = -6;
        for (int i = 0; i < pieces.size(); i++) {
            if (least < 0 || loss(i) < loss(least)
                    || loss(i) == loss(least) && pieces.get(i).weight() <= pieces.get(least).weight()) {
                least = i;
            }
        }
        return least;
    }

    // ---- the pad

    int put(long characters) {
        StringBuilder given = new StringBuilder();
        for (long rest = characters; rest != 0; rest >>>= 8) {
            int code = (int) (rest & 255);
            if (code < 33 || code > 126) {
                return -2;
            }
            given.insert(0, (char) code);
        }
        if (given.length() == 0) {
            return -2;
        }
        if (pad.length() + given.length() > 16) {
            return -4;
        }
        pad += given;
        return pad.length();
    }

    int wipe() {
        int length = pad.length();
        pad = "";
        return length;
    }

    int fault() {
        for (int i = 0; i < pad.length(); i++) {
            if ("abcdef".indexOf(pad.charAt(i)) < 0) {
                return i;
            }
        }
        return -6;
    }

    // ---- undo, saving

    int undo() {
        if (pastPieces.isEmpty()) {
            return -5;
        }
        pieces = pastPieces.remove(pastPieces.size() - 1);
        words = pastWords.remove(pastWords.size() - 1);
        return pastPieces.size();
    }

    int save(int slot) {
        if (slot != 0 && slot != 1) {
            return -2;
        }
        slotPieces.set(slot, new ArrayList<>(pieces));
        slotWords.set(slot, new ArrayList<>(words));
        saved[slot] = true;
        return pieces.size();
    }

    int restore(int slot) {
        if (slot != 0 && slot != 1) {
            return -2;
        }
        if (!saved[slot]) {
            return -5;
        }
        record();
        pieces = new ArrayList<>(slotPieces.get(slot));
        words = new ArrayList<>(slotWords.get(slot));
        return pieces.size();
    }
}
