/** Puts texts on the tape, 24 signs a call. */
final class Feeder {
    private Feeder() { }

    /** The three numbers for feed(), with zeros behind the text's end. */
    static long[] pack(String text, int from) {
        long[] three = new long[3];
        for (int i = 0; i < 24; i++) {
            int sign = from + i < text.length() ? text.charAt(from + i) : 0;
            three[i / 8] = three[i / 8] << 8 | sign & 255;
        }
        return three;
    }

    static int feed(WordsAndRows x, String text) {
        int length = x.count(6);
        for (int from = 0; from < text.length(); from += 24) {
            long[] three = pack(text, from);
            length = x.feed(three[0], three[1], three[2]);
        }
        return length;
    }

    static int tables(WordsAndRows x, String text) {
        feed(x, text);
        return x.tables();
    }

    static int rows(WordsAndRows x, String text) {
        feed(x, text);
        return x.rows();
    }

    static int ask(WordsAndRows x, String text) {
        feed(x, text);
        return x.ask();
    }

    static int question(WordsAndRows x, String text) {
        feed(x, text);
        return x.question();
    }

    static WordsAndRows house(String tables, String rows) {
        WordsAndRows x = new WordsAndRows();
        if (tables(x, tables) != 0) throw new AssertionError("wrong tables: " + tables);
        if (rows(x, rows) != 0) throw new AssertionError("wrong rows: " + rows);
        return x;
    }

    static String sentence(WordsAndRows x, int question) {
        StringBuilder text = new StringBuilder();
        for (int k = 0; x.said(question, k) != WordsAndRows.NONE; k++) text.append((char) x.said(question, k));
        return text.toString();
    }

    static long code(String word) {
        long code = 0;
        for (int i = 0; i < word.length(); i++) code = code * 27 + word.charAt(i) - 'a' + 1;
        return code;
    }
}
