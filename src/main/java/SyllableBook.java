import java.util.Arrays;

/** Words that are cut into the weighted pieces of a book; ../shared/DOC.md tells what each call does. */
public final class SyllableBook {
    public static final int NO_SUCH = -1, BAD_VALUE = -2, BAD_TEXT = -3, TOO_MANY = -4, NOT_POSSIBLE = -5, NONE = -6;

    private static final int MAX_PIECES = 16;
    private static final int MAX_PIECE_LETTERS = 4;
    private static final int MAX_WEIGHT = 9;
    private static final int MAX_WORDS = 8;
    private static final int MAX_WORD_LETTERS = 12;
    private static final int MAX_COUNT = 99;
    private static final int MAX_PAD = 16;
    private static final int MAX_PUT = 8;
    private static final int MAX_HISTORY = 6;
    private static final int SLOTS = 2;

    private static final int UNSEEN_WEIGHT = 1;
    private static final int LETTERS = 6;
    private static final int LOSS_OFFSET = 100000;
    private static final int THOUSANDTHS = 1000;

    private static final int CHARACTER_BITS = 8;
    private static final int FIRST_CHARACTER = 33;
    private static final int LAST_CHARACTER = 126;

    // A text is kept as one number, three bits a letter (a is 1), the first letter on top: so texts
    // compare as numbers like the document orders them, shorter ones first, then by the alphabet.
    private static final int LETTER_BITS = 3;
    private static final int LETTER_MASK = 7;

    private static final int NO_PIECE = -1;
    private static final int NO_ERROR = 0;

    private final Contents contents = new Contents();
    private final Contents trial = new Contents();
    private final Contents[] slots = new Contents[SLOTS];
    private final boolean[] saved = new boolean[SLOTS];
    private final History history = new History();
    private final Pad pad = new Pad();

    private final Lattice lattice = new Lattice();
    private final BestCut best = new BestCut();
    private final AllCuts all = new AllCuts();
    private final Neighbours neighbours = new Neighbours();
    private final int[] borne = new int[MAX_PIECES];
    private final int[] costWithout = new int[MAX_PIECES];

    public SyllableBook() {
        for (int slot = 0; slot < SLOTS; slot++) {
            slots[slot] = new Contents();
        }
    }

    // ---- changes

    public int piece(int weight) {
        int error = newPieceError(weight);
        if (error != NO_ERROR) {
            return error;
        }
        history.record(contents);
        contents.addPiece(pad.text(), pad.length, weight);
        pad.length = 0;
        return contents.pieces - 1;
    }

    public int weigh(int piece, int weight) {
        if (!isPiece(piece)) {
            return NO_SUCH;
        }
        if (weight < 1 || weight > MAX_WEIGHT) {
            return BAD_VALUE;
        }
        history.record(contents);
        int previous = contents.pieceWeight[piece];
        contents.pieceWeight[piece] = weight;
        return previous;
    }

    public int drop(int piece) {
        if (!isPiece(piece)) {
            return NO_SUCH;
        }
        history.record(contents);
        contents.removePiece(piece);
        return contents.pieces;
    }

    public int word(int count) {
        if (!pad.holdsLetters(MAX_WORD_LETTERS)) {
            return BAD_TEXT;
        }
        if (count < 1 || count > MAX_COUNT) {
            return BAD_VALUE;
        }
        if (contents.words >= MAX_WORDS) {
            return TOO_MANY;
        }
        history.record(contents);
        contents.addWord(pad, count);
        pad.length = 0;
        return contents.words - 1;
    }

    public int recount(int word, int count) {
        if (!isWord(word)) {
            return NO_SUCH;
        }
        if (count < 1 || count > MAX_COUNT) {
            return BAD_VALUE;
        }
        history.record(contents);
        int previous = contents.wordCount[word];
        contents.wordCount[word] = count;
        return previous;
    }

    public int forget(int word) {
        if (!isWord(word)) {
            return NO_SUCH;
        }
        history.record(contents);
        contents.removeWord(word);
        return contents.words;
    }

    public int grow() {
        if (contents.pieces >= MAX_PIECES) {
            return TOO_MANY;
        }
        int found = findGrowing();
        if (found < 0) {
            return NOT_POSSIBLE;
        }
        history.record(contents);
        contents.addPiece(neighbours.text[found], neighbours.letters[found], neighbours.weight[found]);
        return contents.pieces - 1;
    }

    public int tune() {
        history.record(contents);
        bearAll();
        int greatest = 0;
        for (int piece = 0; piece < contents.pieces; piece++) {
            greatest = Math.max(greatest, borne[piece]);
        }
        int changed = 0;
        for (int piece = 0; piece < contents.pieces; piece++) {
            int weight = greatest > 0 ? 1 + (MAX_WEIGHT - 1) * borne[piece] / greatest : 1;
            if (contents.pieceWeight[piece] != weight) {
                contents.pieceWeight[piece] = weight;
                changed++;
            }
        }
        return changed;
    }

    public int shrink(int size) {
        if (size < 0 || size > MAX_PIECES) {
            return BAD_VALUE;
        }
        history.record(contents);
        int before = contents.pieces;
        for (int pieces = before; pieces > size; pieces--) {
            contents.removePiece(findLeast());
        }
        return before - contents.pieces;
    }

    // ---- what there is

    public int ofPiece(int piece, int what) {
        if (!isPiece(piece)) {
            return NO_SUCH;
        }
        switch (what) {
            case 0:
                return contents.pieceLetters[piece];
            case 1:
                return contents.pieceWeight[piece];
            case 2:
            case 3:
            case 4:
            case 5:
                return letterOfText(contents.pieceText[piece], contents.pieceLetters[piece], what - 2);
            case 6:
                return timesInBestCuts(piece);
            case 7:
                loseEach();
                return costWithout[piece] - costOfAll(contents) + LOSS_OFFSET;
            case 8:
                bearAll();
                return borne[piece];
            default:
                return BAD_VALUE;
        }
    }

    public int ofWord(int word, int what) {
        if (!isWord(word)) {
            return NO_SUCH;
        }
        cutBest(contents, word);
        switch (what) {
            case 0:
                return contents.wordLetters[word];
            case 1:
                return contents.wordCount[word];
            case 2:
                return best.parts;
            case 3:
                return best.unseen;
            case 4:
                return best.cost() * contents.wordCount[word];
            case 5:
                all.find(lattice);
                return all.cuts();
            default:
                return BAD_VALUE;
        }
    }

    public int letter(int word, int place) {
        if (!isWord(word) || place < 0 || place >= contents.wordLetters[word]) {
            return NO_SUCH;
        }
        return contents.letterAt(word, place);
    }

    public long product(int word, int what) {
        if (!isWord(word)) {
            return NO_SUCH;
        }
        if (what == 0) {
            lattice.read(contents, word);
            all.find(lattice);
            return all.total();
        }
        if (what == 1) {
            cutBest(contents, word);
            return best.greatestProduct();
        }
        return BAD_VALUE;
    }

    public int part(int word, int part, int what) {
        if (!isWord(word)) {
            return NO_SUCH;
        }
        cutBest(contents, word);
        if (part < 0 || part >= best.parts) {
            return NO_SUCH;
        }
        switch (what) {
            case 0:
                return best.partPiece[part] == NO_PIECE ? NONE : best.partPiece[part];
            case 1:
                return best.partPlace[part];
            case 2:
                return best.partLetters[part];
            default:
                return BAD_VALUE;
        }
    }

    public int share(int word, int piece) {
        if (!isWord(word) || !isPiece(piece)) {
            return NO_SUCH;
        }
        lattice.read(contents, word);
        all.find(lattice);
        return all.shareOf(lattice, piece);
    }

    public int count(int what) {
        switch (what) {
            case 0:
                return contents.pieces;
            case 1:
                return contents.words;
            case 2:
                return costOfAll(contents);
            case 3:
                return lettersOfAll();
            case 4:
                return partsOfAll();
            case 5:
                // A part costs 1 and an unseen one 1 more, so what parts leave of the cost is unseen.
                return costOfAll(contents) - partsOfAll();
            case 6:
                return pad.length;
            case 7:
                return history.size;
            default:
                return BAD_VALUE;
        }
    }

    // ---- what if; nothing changes

    public int costWith(int weight) {
        int error = newPieceError(weight);
        if (error != NO_ERROR) {
            return error;
        }
        trial.copyFrom(contents);
        trial.addPiece(pad.text(), pad.length, weight);
        return costOfAll(trial);
    }

    public int growing(int what) {
        if (what < 0 || what > 6) {
            return BAD_VALUE;
        }
        int found = findGrowing();
        if (found < 0) {
            return NONE;
        }
        switch (what) {
            case 0:
                return neighbours.letters[found];
            case 1:
                return neighbours.times[found];
            case 2:
                return neighbours.weight[found];
            default:
                return letterOfText(neighbours.text[found], neighbours.letters[found], what - 3);
        }
    }

    public int least() {
        int found = findLeast();
        return found == NO_PIECE ? NONE : found;
    }

    // ---- the pad

    public int put(long characters) {
        int given = charactersIn(characters);
        if (given == 0) {
            return BAD_VALUE;
        }
        if (pad.length + given > MAX_PAD) {
            return TOO_MANY;
        }
        for (int behind = given - 1; behind >= 0; behind--) {
            pad.append((int) (characters >>> (CHARACTER_BITS * behind)) & 255);
        }
        return pad.length;
    }

    public int wipe() {
        int length = pad.length;
        pad.length = 0;
        return length;
    }

    public int fault() {
        int place = pad.firstNoLetter();
        return place < pad.length ? place : NONE;
    }

    // ---- undo, saving

    public int undo() {
        if (history.size == 0) {
            return NOT_POSSIBLE;
        }
        history.takeBack(contents);
        return history.size;
    }

    public int save(int slot) {
        if (slot < 0 || slot >= SLOTS) {
            return BAD_VALUE;
        }
        slots[slot].copyFrom(contents);
        saved[slot] = true;
        return contents.pieces;
    }

    public int restore(int slot) {
        if (slot < 0 || slot >= SLOTS) {
            return BAD_VALUE;
        }
        if (!saved[slot]) {
            return NOT_POSSIBLE;
        }
        history.record(contents);
        contents.copyFrom(slots[slot]);
        return contents.pieces;
    }

    // ---- helpers

    private boolean isPiece(int piece) {
        return piece >= 0 && piece < contents.pieces;
    }

    private boolean isWord(int word) {
        return word >= 0 && word < contents.words;
    }

    private int newPieceError(int weight) {
        if (!pad.holdsLetters(MAX_PIECE_LETTERS)) {
            return BAD_TEXT;
        }
        if (weight < 1 || weight > MAX_WEIGHT) {
            return BAD_VALUE;
        }
        if (contents.pieces >= MAX_PIECES) {
            return TOO_MANY;
        }
        if (contents.pieceWith(pad.text()) != NO_PIECE) {
            return NOT_POSSIBLE;
        }
        return NO_ERROR;
    }

    /** How many characters such a number gives, 0 if it is no good one. */
    private static int charactersIn(long characters) {
        long rest = characters;
        int given = 0;
        for (int i = 0; i < MAX_PUT && rest != 0; i++) {
            int code = (int) (rest & 255);
            if (code < FIRST_CHARACTER || code > LAST_CHARACTER) {
                return 0;
            }
            given++;
            rest >>>= CHARACTER_BITS;
        }
        return given;
    }

    private static int letterOfText(int text, int letters, int place) {
        if (place >= letters) {
            return NONE;
        }
        return (text >> LETTER_BITS * (letters - 1 - place) & LETTER_MASK) - 1;
    }

    private void cutBest(Contents from, int word) {
        lattice.read(from, word);
        best.find(lattice, NO_PIECE);
    }

    private int costOfAll(Contents from) {
        int cost = 0;
        for (int word = 0; word < from.words; word++) {
            cutBest(from, word);
            cost += best.cost() * from.wordCount[word];
        }
        return cost;
    }

    private int lettersOfAll() {
        int letters = 0;
        for (int word = 0; word < contents.words; word++) {
            letters += contents.wordLetters[word] * contents.wordCount[word];
        }
        return letters;
    }

    private int partsOfAll() {
        int parts = 0;
        for (int word = 0; word < contents.words; word++) {
            cutBest(contents, word);
            parts += best.parts * contents.wordCount[word];
        }
        return parts;
    }

    private int timesInBestCuts(int piece) {
        int times = 0;
        for (int word = 0; word < contents.words; word++) {
            cutBest(contents, word);
            for (int part = 0; part < best.parts; part++) {
                if (best.partPiece[part] == piece) {
                    times += contents.wordCount[word];
                }
            }
        }
        return times;
    }

    /** Fills costWithout: what the cost of all would be without each piece. */
    private void loseEach() {
        Arrays.fill(costWithout, 0);
        for (int word = 0; word < contents.words; word++) {
            lattice.read(contents, word);
            for (int piece = 0; piece < contents.pieces; piece++) {
                best.find(lattice, piece);
                costWithout[piece] += best.cost() * contents.wordCount[word];
            }
        }
    }

    /** Fills borne: the b of each piece, as the document tells for tune. */
    private void bearAll() {
        Arrays.fill(borne, 0);
        for (int word = 0; word < contents.words; word++) {
            lattice.read(contents, word);
            all.find(lattice);
            for (int piece = 0; piece < contents.pieces; piece++) {
                borne[piece] += contents.wordCount[word] * all.shareOf(lattice, piece);
            }
        }
    }

    /** The piece that shrink drops first; the cost now is the same for all, so it needn't be taken off. */
    private int findLeast() {
        loseEach();
        int least = NO_PIECE;
        for (int piece = 0; piece < contents.pieces; piece++) {
            if (least == NO_PIECE || costWithout[piece] < costWithout[least]
                    || costWithout[piece] == costWithout[least]
                    && contents.pieceWeight[piece] <= contents.pieceWeight[least]) {
                least = piece;
            }
        }
        return least;
    }

    /** The place among the neighbours of the text that grow makes a piece, below 0 if there is none. */
    private int findGrowing() {
        neighbours.size = 0;
        for (int word = 0; word < contents.words; word++) {
            cutBest(contents, word);
            for (int part = 0; part + 1 < best.parts; part++) {
                int place = best.partPlace[part];
                int letters = best.partLetters[part] + best.partLetters[part + 1];
                if (letters <= MAX_PIECE_LETTERS && lattice.pieceAt(place, letters) == NO_PIECE) {
                    int weight = Math.min(partWeight(part), partWeight(part + 1));
                    neighbours.add(lattice.textAt(place, letters), letters, weight, contents.wordCount[word]);
                }
            }
        }
        return neighbours.mostFrequent();
    }

    private int partWeight(int part) {
        int piece = best.partPiece[part];
        return piece == NO_PIECE ? UNSEEN_WEIGHT : contents.pieceWeight[piece];
    }

    /** The pieces and the words: all that undo and the slots bring back. */
    private static final class Contents {
        int pieces;
        final int[] pieceText = new int[MAX_PIECES];
        final int[] pieceLetters = new int[MAX_PIECES];
        final int[] pieceWeight = new int[MAX_PIECES];
        int words;
        final int[] wordLetters = new int[MAX_WORDS];
        final int[] wordCount = new int[MAX_WORDS];
        final int[] letters = new int[MAX_WORDS * MAX_WORD_LETTERS];

        void copyFrom(Contents other) {
            pieces = other.pieces;
            System.arraycopy(other.pieceText, 0, pieceText, 0, MAX_PIECES);
            System.arraycopy(other.pieceLetters, 0, pieceLetters, 0, MAX_PIECES);
            System.arraycopy(other.pieceWeight, 0, pieceWeight, 0, MAX_PIECES);
            words = other.words;
            System.arraycopy(other.wordLetters, 0, wordLetters, 0, MAX_WORDS);
            System.arraycopy(other.wordCount, 0, wordCount, 0, MAX_WORDS);
            System.arraycopy(other.letters, 0, letters, 0, MAX_WORDS * MAX_WORD_LETTERS);
        }

        int pieceWith(int text) {
            for (int piece = 0; piece < pieces; piece++) {
                if (pieceText[piece] == text) {
                    return piece;
                }
            }
            return NO_PIECE;
        }

        void addPiece(int text, int length, int weight) {
            if (pieces >= MAX_PIECES) {
                return;
            }
            pieceText[pieces] = text;
            pieceLetters[pieces] = length;
            pieceWeight[pieces] = weight;
            pieces++;
        }

        void removePiece(int piece) {
            if (piece < 0 || piece >= pieces) {
                return;
            }
            pieces--;
            System.arraycopy(pieceText, piece + 1, pieceText, piece, pieces - piece);
            System.arraycopy(pieceLetters, piece + 1, pieceLetters, piece, pieces - piece);
            System.arraycopy(pieceWeight, piece + 1, pieceWeight, piece, pieces - piece);
        }

        int letterAt(int word, int place) {
            return letters[word * MAX_WORD_LETTERS + place];
        }

        void addWord(Pad pad, int count) {
            if (words >= MAX_WORDS || pad.length > MAX_WORD_LETTERS) {
                return;
            }
            for (int place = 0; place < pad.length; place++) {
                letters[words * MAX_WORD_LETTERS + place] = pad.letterAt(place);
            }
            wordLetters[words] = pad.length;
            wordCount[words] = count;
            words++;
        }

        void removeWord(int word) {
            if (word < 0 || word >= words) {
                return;
            }
            words--;
            int moved = words - word;
            System.arraycopy(wordLetters, word + 1, wordLetters, word, moved);
            System.arraycopy(wordCount, word + 1, wordCount, word, moved);
            System.arraycopy(letters, (word + 1) * MAX_WORD_LETTERS, letters, word * MAX_WORD_LETTERS,
                    moved * MAX_WORD_LETTERS);
        }
    }

    /** The states before the latest changes, the oldest first; the rows are made once and used again. */
    private static final class History {
        int size;
        final Contents[] states = new Contents[MAX_HISTORY];

        History() {
            for (int i = 0; i < MAX_HISTORY; i++) {
                states[i] = new Contents();
            }
        }

        void record(Contents state) {
            if (size >= MAX_HISTORY) {
                dropOldest();
            }
            states[size].copyFrom(state);
            size++;
        }

        void dropOldest() {
            Contents oldest = states[0];
            for (int i = 1; i < MAX_HISTORY; i++) {
                states[i - 1] = states[i];
            }
            states[MAX_HISTORY - 1] = oldest;
            size = MAX_HISTORY - 1;
        }

        void takeBack(Contents state) {
            if (size <= 0) {
                return;
            }
            size--;
            state.copyFrom(states[size]);
        }
    }

    /** The characters that wait to become a piece or a word. */
    private static final class Pad {
        int length;
        final int[] codes = new int[MAX_PAD];

        void append(int code) {
            if (length >= MAX_PAD) {
                return;
            }
            codes[length] = code;
            length++;
        }

        /** 0 for a to 5 for f, something else for all other characters. */
        int letterAt(int place) {
            return codes[place] - 'a';
        }

        /** Where the first character stands that is no letter; the length if all are letters. */
        int firstNoLetter() {
            int place = 0;
            while (place < length && letterAt(place) >= 0 && letterAt(place) < LETTERS) {
                place++;
            }
            return place;
        }

        boolean holdsLetters(int most) {
            return length >= 1 && length <= most && firstNoLetter() == length;
        }

        /** The letters as one number; only for those that are letters, and not more than a piece has. */
        int text() {
            int text = 0;
            for (int place = 0; place < length; place++) {
                text = text << LETTER_BITS | letterAt(place) + 1;
            }
            return text;
        }
    }

    /** The texts that start at each place of one word, up to the letters of a piece, and which are pieces. */
    private static final class Lattice {
        int length;
        final int[] text = new int[MAX_WORD_LETTERS * MAX_PIECE_LETTERS];
        final int[] piece = new int[MAX_WORD_LETTERS * MAX_PIECE_LETTERS];
        final int[] weightOf = new int[MAX_PIECES];

        void read(Contents contents, int word) {
            length = contents.wordLetters[word];
            System.arraycopy(contents.pieceWeight, 0, weightOf, 0, MAX_PIECES);
            for (int place = 0; place < length; place++) {
                int most = mostLetters(place);
                int code = 0;
                for (int letters = 1; letters <= most; letters++) {
                    code = code << LETTER_BITS | contents.letterAt(word, place + letters - 1) + 1;
                    text[index(place, letters)] = code;
                    piece[index(place, letters)] = contents.pieceWith(code);
                }
            }
        }

        int mostLetters(int place) {
            return Math.min(MAX_PIECE_LETTERS, length - place);
        }

        static int index(int place, int letters) {
            return place * MAX_PIECE_LETTERS + letters - 1;
        }

        int textAt(int place, int letters) {
            return text[index(place, letters)];
        }

        int pieceAt(int place, int letters) {
            return piece[index(place, letters)];
        }

        /** The weight of a part if the book lacks one of its pieces; 0 if it is no part then. */
        int weightAt(int place, int letters, int without) {
            int found = pieceAt(place, letters);
            if (found == NO_PIECE || found == without) {
                return letters == 1 ? UNSEEN_WEIGHT : 0;
            }
            return weightOf[found];
        }
    }

    /** The best cut of a word: first of the rest from each place on, then laid out part by part. */
    private static final class BestCut {
        final long[] restProduct = new long[MAX_WORD_LETTERS + 1];
        final int[] restParts = new int[MAX_WORD_LETTERS + 1];
        final int[] restFirst = new int[MAX_WORD_LETTERS + 1];
        int parts;
        int unseen;
        final int[] partPiece = new int[MAX_WORD_LETTERS];
        final int[] partPlace = new int[MAX_WORD_LETTERS];
        final int[] partLetters = new int[MAX_WORD_LETTERS];

        void find(Lattice lattice, int without) {
            restProduct[lattice.length] = 1;
            restParts[lattice.length] = 0;
            for (int place = lattice.length - 1; place >= 0; place--) {
                findFirst(lattice, place, without);
            }
            layOut(lattice, without);
        }

        /** Goes from short to long first parts, so that a longer one wins where all else is the same. */
        private void findFirst(Lattice lattice, int place, int without) {
            restProduct[place] = 0;
            restParts[place] = 0;
            int most = lattice.mostLetters(place);
            for (int letters = 1; letters <= most; letters++) {
                int weight = lattice.weightAt(place, letters, without);
                long product = weight * restProduct[place + letters];
                int count = 1 + restParts[place + letters];
                if (weight > 0 && (product > restProduct[place]
                        || product == restProduct[place] && count <= restParts[place])) {
                    restProduct[place] = product;
                    restParts[place] = count;
                    restFirst[place] = letters;
                }
            }
        }

        private void layOut(Lattice lattice, int without) {
            parts = restParts[0];
            unseen = 0;
            int place = 0;
            for (int part = 0; part < parts; part++) {
                int letters = restFirst[place];
                int piece = lattice.pieceAt(place, letters);
                partPiece[part] = piece == without ? NO_PIECE : piece;
                partPlace[part] = place;
                partLetters[part] = letters;
                if (partPiece[part] == NO_PIECE) {
                    unseen++;
                }
                place += letters;
            }
        }

        long greatestProduct() {
            return restProduct[0];
        }

        /** What one word of this cut costs. */
        int cost() {
            return parts + unseen;
        }
    }

    /** The sums over all cuts of a word: of the products up to each place and from it on, and how many cuts. */
    private static final class AllCuts {
        final long[] before = new long[MAX_WORD_LETTERS + 1];
        final long[] behind = new long[MAX_WORD_LETTERS + 1];
        final int[] cutsBehind = new int[MAX_WORD_LETTERS + 1];

        void find(Lattice lattice) {
            Arrays.fill(before, 0);
            before[0] = 1;
            for (int place = 0; place < lattice.length; place++) {
                int most = lattice.mostLetters(place);
                for (int letters = 1; letters <= most; letters++) {
                    before[place + letters] += before[place] * lattice.weightAt(place, letters, NO_PIECE);
                }
            }
            behind[lattice.length] = 1;
            cutsBehind[lattice.length] = 1;
            for (int place = lattice.length - 1; place >= 0; place--) {
                addBehind(lattice, place);
            }
        }

        private void addBehind(Lattice lattice, int place) {
            behind[place] = 0;
            cutsBehind[place] = 0;
            int most = lattice.mostLetters(place);
            for (int letters = 1; letters <= most; letters++) {
                int weight = lattice.weightAt(place, letters, NO_PIECE);
                behind[place] += weight * behind[place + letters];
                if (weight > 0) {
                    cutsBehind[place] += cutsBehind[place + letters];
                }
            }
        }

        long total() {
            return behind[0];
        }

        int cuts() {
            return cutsBehind[0];
        }

        int shareOf(Lattice lattice, int piece) {
            long sum = 0;
            for (int place = 0; place < lattice.length; place++) {
                int most = lattice.mostLetters(place);
                for (int letters = 1; letters <= most; letters++) {
                    if (lattice.pieceAt(place, letters) == piece) {
                        int weight = lattice.weightAt(place, letters, NO_PIECE);
                        sum += before[place] * weight * behind[place + letters];
                    }
                }
            }
            return total() > 0 ? (int) (THOUSANDTHS * sum / total()) : 0;
        }
    }

    /** The texts that two neighbours in the best cuts make together, and how often they stand so. */
    private static final class Neighbours {
        static final int MOST = MAX_WORDS * (MAX_WORD_LETTERS - 1);

        int size;
        final int[] text = new int[MOST];
        final int[] letters = new int[MOST];
        final int[] weight = new int[MOST];
        final int[] times = new int[MOST];

        /** A text that stands there already keeps its weight: the first place decides it. */
        void add(int newText, int newLetters, int newWeight, int count) {
            for (int i = 0; i < size; i++) {
                if (text[i] == newText) {
                    times[i] += count;
                    return;
                }
            }
            if (size >= MOST) {
                return;
            }
            text[size] = newText;
            letters[size] = newLetters;
            weight[size] = newWeight;
            times[size] = count;
            size++;
        }

        int mostFrequent() {
            int found = NO_PIECE;
            for (int i = 0; i < size; i++) {
                if (found < 0 || times[i] > times[found] || times[i] == times[found] && text[i] < text[found]) {
                    found = i;
                }
            }
            return found;
        }
    }
}
