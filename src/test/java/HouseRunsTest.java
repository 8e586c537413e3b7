import java.util.ArrayList;
import java.util.List;
import java.util.Random;

/**
 * Runs of at most 512 calls in houses whose rows hang together, held against the Model: most asks have joinings of
 * several rows, columns are offered and let, questions are chosen and read back. The chance is the same each time.
 */
public final class HouseRunsTest {
    private static final int MOST_CALLS = 512;
    private static final String[] NAMES = {"person", "bill", "town", "land", "item", "shop", "road"};
    private static final String[] COLUMNS = {"name", "town", "who", "up", "sum", "at", "land", "mark"};
    private static final String[] WORDS = {"ulm", "ulms", "elm", "bonn", "born", "marta", "martas", "marte", "anton", "rhine",
        "swabia", "red", "reds", "rod", "bill", "town", "name", "oak", "oaks", "ash", "abcdefgh", "abcdefg", "abcdefgs", "z"};
    /** What was seen in all runs, so that it shows if they get poor. */
    private static final int[] SEEN = new int[6];
    private static final String[] SEEN_NAMES = {"joinings of three rows or more", "asks with three questions or more",
        "ties let", "asks with something to leave out", "questions read back", "ranks that choosing changed"};

    private final Random chance;
    private final Pair pair = new Pair();
    private final Model m = pair.m;
    private final List<String> names = new ArrayList<>();
    private final List<List<String>> kinds = new ArrayList<>();
    private final List<List<String>> columns = new ArrayList<>();
    /** How far the words of a table are from those of the one ahead of it. */
    private final int apart;
    private String wrong;

    private HouseRunsTest(long seed) {
        chance = new Random(seed);
        apart = new int[] {0, 1, 2, 5}[chance.nextInt(4)];
    }

    public static void main(String[] args) {
        int runs = args.length > 0 ? Integer.parseInt(args[0]) : 400;
        int from = args.length > 1 ? Integer.parseInt(args[1]) : 0;
        int bad = 0;
        for (int seed = from; seed < from + runs && bad < 5; seed++) {
            HouseRunsTest test = new HouseRunsTest(seed);
            test.run(seed % 20 == 19);
            if (test.wrong != null) {
                bad++;
                System.out.println("run " + seed + ": " + test.wrong);
                for (String line : test.pair.log) System.out.println("    " + line);
            }
        }
        boolean poor = false;
        for (int i = 0; i < SEEN.length; i++) {
            System.out.println(SEEN[i] + " " + SEEN_NAMES[i]);
            poor |= SEEN[i] < runs / 2;
        }
        System.out.println(bad == 0 ? runs + " runs are as the model's" : bad + " runs are not as the model's");
        if (bad != 0 || poor) System.exit(1);
    }

    private void run(boolean large) {
        tellTables();
        tellRows(large ? 20 + chance.nextInt(8) : 8 + chance.nextInt(6));
        if (large) same("width", 3, 0);
        letSome();
        tellAsk();
        while (wrong == null && pair.calls < MOST_CALLS - 45) {
            change(large);
            for (int i = 0; i < 12 && pair.calls < MOST_CALLS; i++) probe();
        }
    }

    private void same(String call, int a, int b) {
        if (wrong == null) wrong = pair.same(call, a, b);
    }

    private void tell(String text, String call) {
        if (wrong == null) wrong = pair.tell(text, call);
    }

    private String one(String[] of) { return of[chance.nextInt(of.length)]; }

    private int below(int n) { return n <= 0 ? 0 : chance.nextInt(n); }

    // ---- what changes the house

    private void change(boolean large) {
        int what = chance.nextInt(20);
        if (what < 8) tellAsk();
        else if (what < 10) same("width", large ? 2 + chance.nextInt(2) : 5 - below(chance.nextInt(6)), 0);
        else if (what < 11) same("person", chance.nextInt(3), 0);
        else if (what < 13) same("hide", chance.nextInt(3) * 64 + below(m.count(1)), chance.nextInt(3) == 0 ? 0 : 1);
        else if (what < 14) letSome();
        else if (what < 15) tellRows(1);
        else if (what < 17) chooseOne();
        else if (what < 18) same("meant", m.joining(below(m.count(4)), 0), 0);
        else readBack();
    }

    private void tellTables() {
        StringBuilder text = new StringBuilder();
        int many = 2 + chance.nextInt(4);
        for (int t = 0; t < many; t++) {
            names.add(NAMES[(t + chance.nextInt(2) * 5) % NAMES.length]);
            if (names.indexOf(names.get(t)) < t) names.set(t, NAMES[t]);
            if (names.indexOf(names.get(t)) < t) names.set(t, "more");
            List<String> its = new ArrayList<>();
            List<String> called = new ArrayList<>();
            int count = 2 + chance.nextInt(3);
            text.append("table ").append(names.get(t));
            for (int c = 0; c < count; c++) {
                String column = one(COLUMNS);
                while (called.contains(column)) column = one(COLUMNS);
                its.add(c == 0 ? "text" : kindOfColumn(t));
                called.add(column);
                text.append(c == 0 ? " " : " , ").append(column).append(' ').append(its.get(c));
            }
            text.append(" ;");
            kinds.add(its);
            columns.add(called);
        }
        tell(text.toString(), "tables");
        if (!pair.lastWasZero()) wrong = "the tables should have been told";
    }

    private String kindOfColumn(int table) {
        int kind = chance.nextInt(10);
        if (kind < 6) return names.get(chance.nextInt(table + 1));
        return kind < 8 ? "text" : "number";
    }

    private void tellRows(int many) {
        int[] there = new int[names.size()];
        for (int r = 0; r < m.count(1); r++) there[m.row(r, 0)]++;
        StringBuilder text = new StringBuilder();
        for (int i = 0; i < many; i++) {
            int table = i < names.size() && many > 1 ? i : chance.nextInt(names.size());
            text.append(names.get(table));
            for (int c = 0; c < kinds.get(table).size(); c++) text.append(' ').append(cell(table, c, there));
            text.append(" ; ");
            there[table]++;
        }
        tell(text.toString(), "rows");
    }

    /** First columns have different words as a rule, so that others may be offered to them. */
    private String cell(int table, int column, int[] there) {
        String kind = kinds.get(table).get(column);
        if (kind.equals("number")) return String.valueOf(chance.nextInt(9));
        if (!kind.equals("text")) {
            int rows = there[names.indexOf(kind)];
            if (rows == 0 || chance.nextInt(12) == 0) return "none";
            return String.valueOf(chance.nextInt(chance.nextBoolean() ? rows : Math.min(2, rows)));
        }
        if (column == 0) return WORDS[(apart * table + there[table]) % WORDS.length];
        return WORDS[(apart * chance.nextInt(names.size()) + chance.nextInt(3)) % WORDS.length];
    }

    private void letSome() {
        int offered = m.count(7);
        if (offered == 0) return;
        int before = m.count(8);
        same("lets", chance.nextInt(offered), 0);
        SEEN[2] += m.count(8) - before;
    }

    private void chooseOne() {
        int questions = m.count(5);
        int question = Math.max(below(questions), below(questions + 1));
        int rank = m.asked(question, 3);
        same("choose", question, 0);
        if (m.asked(question, 3) != rank) SEEN[5]++;
        for (int q = 0; q < Math.min(questions, 4); q++) same("asked", q, 3);
    }

    private void readBack() {
        String sentence = m.sentence(below(m.count(5)));
        if (sentence == null) return;
        if (chance.nextInt(3) == 0) {
            String[] halves = sentence.split(" : ");
            String[] heads = halves[0].split(" , ");
            StringBuilder turned = new StringBuilder(heads[heads.length - 1]);
            for (int i = heads.length - 2; i >= 0; i--) turned.append(",\n").append(heads[i]);
            if (chance.nextInt(4) == 0) turned.append(", ").append(names.get(chance.nextInt(names.size())));
            sentence = turned + ":" + halves[1];
        }
        tell(sentence, "question");
        SEEN[4]++;
    }

    /** Terms are taken from rows that are tied, as a rule. */
    private void tellAsk() {
        StringBuilder text = new StringBuilder();
        int rows = m.count(1);
        int row = below(rows);
        int many = 1 + chance.nextInt(4);
        for (int i = 0; i < many; i++) {
            text.append(i == 0 ? "" : " ").append(term(row));
            row = walk(row, rows);
        }
        tell(text.toString(), "ask");
        for (int k = 0; k < m.count(4); k++) SEEN[0] += Integer.bitCount(m.joining(k, 0)) >= 3 ? 1 : 0;
        if (m.count(5) >= 3) SEEN[1]++;
        if (m.left() >= 0) SEEN[3]++;
    }

    private int walk(int from, int rows) {
        int row = from;
        for (int again = 0; again < 12; again++) {
            int other = below(rows);
            if (m.tie(row, other) >= 0) row = other;
        }
        return row;
    }

    private String term(int row) {
        int table = m.count(1) > 0 ? m.row(row, 0) : 0;
        int kind = chance.nextInt(14);
        if (kind == 0 || kind >= 12) return names.get(table);
        if (kind == 1) return one(columns.get(table).toArray(new String[0]));
        if (kind == 2) return (chance.nextBoolean() ? "over " : "under ") + chance.nextInt(9);
        if (kind == 3 && chance.nextBoolean()) return one(WORDS);
        String word = wordOf(row);
        return kind == 4 ? "near " + word : kind == 5 && word.length() < 8 ? word + "s" : word;
    }

    private String wordOf(int row) {
        for (int again = 0; again < 6; again++) {
            long code = m.cell(row, chance.nextInt(4));
            for (String word : WORDS) if (Feeder.code(word) == code) return word;
        }
        return one(WORDS);
    }

    // ---- what is looked at

    private void probe() {
        int rows = m.count(1);
        int terms = m.count(3);
        int joinings = m.count(4);
        int questions = m.count(5);
        int sets = m.looks(1000000, 2);
        switch (chance.nextInt(16)) {
            case 0: case 1: same("joining", below(joinings + 1), chance.nextInt(4)); break;
            case 2: same("place", below(joinings + 1), below(terms + 1)); break;
            case 3: case 4: same("looks", chance.nextBoolean() ? below(sets + 2) : Math.max(0, sets - chance.nextInt(3)), chance.nextInt(3)); break;
            case 5: case 6: same("asked", below(questions + 1), chance.nextInt(5)); break;
            case 7: sign(questions); break;
            case 8: same("parts", chance.nextInt(2), 0); break;
            case 9: same("left", 0, 0); break;
            case 10: same("near", below(terms), chance.nextInt(3)); break;
            case 11: same("holds", below(rows), below(terms)); break;
            case 12: same("tie", below(rows), below(rows)); break;
            case 13: same("cell", below(rows), chance.nextInt(4)); break;
            case 14: same("offered", below(m.count(7) + 1), 0); break;
            default: same(chance.nextInt(3) == 0 ? "judged" : "count", chance.nextInt(10), 0);
        }
    }

    private void sign(int questions) {
        int question = below(questions);
        String sentence = m.sentence(question);
        same("said", question, below(sentence == null ? 1 : sentence.length() + 1));
    }
}
