/** What the tests share: counting wrong answers, and texts as put takes them. */
final class Check {
    private static int checks = 0;
    private static int wrong = 0;

    private Check() {
    }

    static void due(String call, long got, long want) {
        checks++;
        if (got != want) {
            wrong++;
            System.out.println(call + " answered " + got + ", due is " + want);
        }
    }

    static void same(String what, String got, String want) {
        checks++;
        if (!got.equals(want)) {
            wrong++;
            System.out.println(what + ": got\n  " + got + "\ndue is\n  " + want);
        }
    }

    static void isTrue(String what, boolean holds) {
        checks++;
        if (!holds) {
            wrong++;
            System.out.println("does not hold: " + what);
        }
    }

    static boolean anyWrong() {
        return wrong > 0;
    }

    /** Ends a test: exit code 1 if an answer was wrong, or nothing was asked. */
    static void finish(String name) {
        System.out.println(name + ": " + checks + " checks, " + wrong + " wrong");
        if (wrong > 0 || checks == 0) {
            System.exit(1);
        }
    }

    /** One to eight characters as the number that put takes. */
    static long packed(String text) {
        long number = 0;
        for (int i = 0; i < text.length(); i++) {
            number = number << 8 | text.charAt(i);
        }
        return number;
    }

    /** Puts a text of any length, in as many calls as it takes. */
    static void fill(SyllableBook book, String text) {
        for (int from = 0; from < text.length(); from += 8) {
            book.put(packed(text.substring(from, Math.min(from + 8, text.length()))));
        }
    }

    static int piece(SyllableBook book, String text, int weight) {
        fill(book, text);
        return book.piece(weight);
    }

    static int word(SyllableBook book, String text, int count) {
        fill(book, text);
        return book.word(count);
    }

    /** A book of these pieces ("ab 3") and words ("abab 2"), a row of them behind one another. */
    static SyllableBook book(String pieces, String words) {
        SyllableBook book = new SyllableBook();
        for (String entry : entries(pieces)) {
            String[] halves = entry.trim().split(" ");
            piece(book, halves[0], Integer.parseInt(halves[1]));
        }
        for (String entry : entries(words)) {
            String[] halves = entry.trim().split(" ");
            word(book, halves[0], Integer.parseInt(halves[1]));
        }
        return book;
    }

    private static String[] entries(String row) {
        return row.isEmpty() ? new String[0] : row.split(",");
    }

    static String letters(SyllableBook book, int word) {
        StringBuilder text = new StringBuilder();
        for (int place = 0; book.letter(word, place) >= 0; place++) {
            text.append((char) ('a' + book.letter(word, place)));
        }
        return text.toString();
    }

    static String pieceText(SyllableBook book, int piece) {
        StringBuilder text = new StringBuilder();
        for (int what = 2; what <= 5 && book.ofPiece(piece, what) >= 0; what++) {
            text.append((char) ('a' + book.ofPiece(piece, what)));
        }
        return text.toString();
    }

    static String growingText(SyllableBook book) {
        StringBuilder text = new StringBuilder();
        for (int what = 3; what <= 6 && book.growing(what) >= 0; what++) {
            text.append((char) ('a' + book.growing(what)));
        }
        return text.toString();
    }

    /** The best cut of a word: its parts with a bar between them, unseen ones as capitals. */
    static String cut(SyllableBook book, int word) {
        String text = letters(book, word);
        StringBuilder cut = new StringBuilder();
        for (int part = 0; book.part(word, part, 1) >= 0; part++) {
            int from = book.part(word, part, 1);
            String letters = text.substring(from, from + book.part(word, part, 2));
            cut.append(part > 0 ? "|" : "").append(book.part(word, part, 0) >= 0 ? letters : letters.toUpperCase());
        }
        return cut.toString();
    }

    /** The pieces with their weights and the words with their counts: all that undo brings back. */
    static String contents(SyllableBook book) {
        StringBuilder all = new StringBuilder();
        for (int piece = 0; piece < book.count(0); piece++) {
            all.append(pieceText(book, piece)).append(' ').append(book.ofPiece(piece, 1)).append(',');
        }
        all.append(" /");
        for (int word = 0; word < book.count(1); word++) {
            all.append(letters(book, word)).append(' ').append(book.ofWord(word, 1)).append(',');
        }
        return all.toString();
    }

    /** The contents, the pad and the history, as far as questions show them. */
    static String everything(SyllableBook book) {
        return contents(book) + " pad " + book.count(6) + " fault " + book.fault() + " undo " + book.count(7)
                + " cost " + book.count(2);
    }
}
