/** A house in which each row is tied to all rows of other tables: the most there can be to look at. */
final class Dense {
    private static final String[] TABLES = {"a", "b", "c", "d", "e"};

    private Dense() { }

    /** Five tables, a row for each word in each of them. */
    static WordsAndRows house(String... words) {
        StringBuilder tables = new StringBuilder();
        for (String table : TABLES) tables.append("table ").append(table).append(" k text,l text;");
        WordsAndRows x = Feeder.house(tables.toString(), rows(words[0]));
        for (int i = 0; i < x.count(7); i++) {
            int code = x.offered(i);
            // the first columns alone
            if (code / 20 % 4 == 0 && code % 20 % 4 == 0 && !x.lets(i)) throw new AssertionError("not let: " + code);
        }
        for (int i = 1; i < words.length; i++) {
            if (Feeder.rows(x, rows(words[i])) != 0) throw new AssertionError("not told: " + words[i]);
        }
        return x;
    }

    private static String rows(String word) {
        StringBuilder rows = new StringBuilder();
        for (String table : TABLES) rows.append(table).append(" m ").append(word).append(';');
        return rows.toString();
    }
}
