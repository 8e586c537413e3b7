import java.util.ArrayList;
import java.util.List;
import java.util.Random;

/** Runs of chance calls, all promises among them, held against the Model; the chance is the same each time. */
public final class ModelTest {
    private static final String[] WORDS = {"a", "b", "as", "bs", "ab", "abs", "ass", "ulm", "ulms", "elm", "ulme",
        "um", "abcdefgh", "abcdefg", "bcdefgh", "abcdefgs", "x", "y", "z", "xs", "zz"};
    private static final String SIGNS = "ab s09,;:\nA.-table none";
    private static final int[] EDGES = {Integer.MIN_VALUE, Integer.MAX_VALUE, -2, -1, 31, 32, 33, 40, 64, 1000000, 1000001};

    private final Random chance;
    private final Pair pair = new Pair();
    private final Model m = pair.m;
    private final List<List<String>> kinds = new ArrayList<>();
    private final List<String> names = new ArrayList<>();

    private ModelTest(long seed) {
        chance = new Random(seed);
    }

    public static void main(String[] args) {
        int runs = args.length > 0 ? Integer.parseInt(args[0]) : 1500;
        int from = args.length > 1 ? Integer.parseInt(args[1]) : 0;
        int bad = 0;
        for (int seed = from; seed < from + runs && bad < 5; seed++) {
            ModelTest test = new ModelTest(seed);
            String wrong = test.run(seed % 25 == 24);
            if (wrong != null) {
                bad++;
                System.out.println("run " + seed + ": " + wrong);
                for (String line : test.pair.log) System.out.println("    " + line);
            }
        }
        System.out.println(bad == 0 ? runs + " runs are as the model's" : bad + " runs are not as the model's");
        if (bad != 0) System.exit(1);
    }

    private String run(boolean large) {
        String wrong = tellTables(false);
        if (wrong == null) wrong = tellRows(large ? 16 + chance.nextInt(8) : 4 + chance.nextInt(8), false);
        if (wrong == null) wrong = tellAsk(false);
        int calls = large ? 60 : 200;
        for (int i = 0; i < calls && wrong == null; i++) wrong = step(large);
        return wrong;
    }

    private String step(boolean large) {
        int what = chance.nextInt(100);
        if (what < 1) {
            String wrong = tellTables(chance.nextInt(3) != 0);
            return wrong != null ? wrong : tellRows(3 + chance.nextInt(8), false);
        }
        if (what < 4) return tellRows(1 + chance.nextInt(large ? 8 : 3), chance.nextInt(2) == 0);
        if (what < 11) return tellAsk(chance.nextInt(4) == 0);
        if (what < 17) return readQuestion();
        if (what < 19) return pair.same("width", number(6), 0);
        if (what < 21) return pair.same("person", number(4), 0);
        if (what < 24) return pair.same("hide", Math.floorMod(number(4), 6) * 64 + Math.floorMod(number(30), 32), chance.nextInt(2));
        if (what < 26) return pair.same("lets", number(4), 0);
        String[] calls = {"row", "cell", "holds", "found", "tie", "joining", "place", "looks", "asked", "said", "choose",
            "parts", "left", "near", "meant", "judged", "offered", "count"};
        int[] firsts = {30, 12, 12, 5, 12, 12, 12, 60, 6, 3, 4, 3, 1, 5, 0, 4, 6, 11};
        int[] seconds = {4, 5, 5, 1, 12, 5, 5, 4, 6, 80, 1, 1, 1, 6, 1, 1, 1, 1};
        int call = chance.nextInt(calls.length);
        int first = number(firsts[call]);
        if (calls[call].equals("meant")) first = chance.nextInt(3) == 0 ? chance.nextInt(1 << 12) : m.joining(number(6), 0);
        return pair.same(calls[call], first, number(seconds[call]));
    }

    private int number(int below) {
        if (chance.nextInt(25) == 0) return EDGES[chance.nextInt(EDGES.length)];
        return below <= 0 ? 0 : chance.nextInt(chance.nextBoolean() ? below : Math.min(below, 4));
    }

    // ---- texts

    private String spoil(String text, boolean yes) {
        if (!yes || text.isEmpty()) return text;
        int at = chance.nextInt(text.length());
        String sign = String.valueOf(SIGNS.charAt(chance.nextInt(SIGNS.length())));
        switch (chance.nextInt(4)) {
            case 0: return text.substring(0, at) + text.substring(at + 1);
            case 1: return text.substring(0, at) + sign + text.substring(at);
            case 2: return text.substring(0, at);
            default: return text.substring(0, at) + sign + text.substring(at + 1);
        }
    }

    private String word() { return WORDS[chance.nextInt(WORDS.length)]; }

    private String few() { return WORDS[chance.nextInt(chance.nextInt(3) == 0 ? 11 : 4)]; }

    private String tellTables(boolean spoilt) {
        List<String> newNames = new ArrayList<>();
        List<List<String>> newKinds = new ArrayList<>();
        StringBuilder text = new StringBuilder();
        int many = spoilt ? chance.nextInt(7) : 1 + chance.nextInt(5);
        for (int t = 0; t < many; t++) {
            String name = word();
            if (!spoilt && newNames.contains(name)) continue;
            newNames.add(name);
            List<String> columns = new ArrayList<>();
            List<String> its = new ArrayList<>();
            text.append("table ").append(name).append(' ');
            int count = 1 + chance.nextInt(spoilt ? 5 : 4);
            for (int c = 0; c < count; c++) {
                String column = word();
                if (!spoilt && columns.contains(column)) continue;
                String kind = chance.nextInt(5) < 2 ? "text" : chance.nextInt(3) == 0 ? "number" : newNames.get(chance.nextInt(newNames.size()));
                text.append(columns.isEmpty() ? "" : chance.nextBoolean() ? " , " : ",").append(column).append(' ').append(kind);
                columns.add(column);
                its.add(kind);
            }
            newKinds.add(its);
            text.append(chance.nextBoolean() ? ";\n" : " ; ");
        }
        String wrong = pair.tell(spoil(text.toString(), spoilt && chance.nextBoolean()), "tables");
        if (pair.lastWasZero()) {
            names.clear();
            kinds.clear();
            // a spoilt text that is read all the same may tell others: the rows for it are just more often wrong then
            names.addAll(newNames);
            kinds.addAll(newKinds);
        }
        return wrong;
    }

    private String tellRows(int many, boolean spoilt) {
        if (names.isEmpty()) return null;
        int[] there = new int[names.size() + 7];
        for (int r = 0; r < m.count(1); r++) there[m.row(r, 0)]++;
        StringBuilder text = new StringBuilder();
        for (int i = 0; i < many; i++) {
            int table = chance.nextInt(names.size());
            text.append(names.get(table));
            for (String kind : kinds.get(table)) text.append(' ').append(cell(kind, there, spoilt));
            text.append(chance.nextBoolean() ? " ; " : ";");
            there[table]++;
        }
        return pair.tell(spoil(text.toString(), spoilt), "rows");
    }

    private String cell(String kind, int[] there, boolean spoilt) {
        if (kind.equals("text")) return chance.nextInt(4) == 0 ? word() : few();
        if (kind.equals("number")) return String.valueOf(chance.nextInt(chance.nextBoolean() ? 12 : 10000));
        int rows = there[names.indexOf(kind)] + (spoilt && chance.nextInt(6) == 0 ? 1 : 0);
        if (rows == 0 || chance.nextInt(10) == 0) return "none";
        return (chance.nextInt(9) == 0 ? "0" : "") + chance.nextInt(chance.nextBoolean() ? rows : Math.min(2, rows));
    }

    /** A word that some row has, as a rule. */
    private String askedWord() {
        int rows = m.count(1);
        for (int again = 0; again < 6 && rows > 0; again++) {
            long code = m.cell(chance.nextInt(rows), chance.nextInt(4));
            for (String word : WORDS) if (Feeder.code(word) == code) return word;
        }
        return word();
    }

    private String tellAsk(boolean spoilt) {
        StringBuilder text = new StringBuilder();
        int many = chance.nextInt(spoilt ? 6 : 3) + (spoilt ? 0 : 1) + (chance.nextInt(6) == 0 ? 1 : 0);
        for (int i = 0; i < many; i++) {
            int kind = chance.nextInt(9);
            if (kind < 6) text.append(chance.nextInt(3) == 0 && !names.isEmpty() ? names.get(chance.nextInt(names.size())) : chance.nextInt(5) == 0 ? word() : askedWord());
            else if (kind == 6) text.append("near ").append(word());
            else text.append(kind == 7 ? "over " : "under ").append(chance.nextInt(4) == 0 ? "00" : "").append(chance.nextInt(15));
            text.append(i + 1 < many || chance.nextBoolean() ? " " : "");
        }
        return pair.tell(spoil(text.toString(), spoilt), "ask");
    }

    private String readQuestion() {
        String sentence = m.sentence(number(5));
        if (sentence == null) sentence = few() + " : " + word() + " of " + few();
        String[] halves = sentence.split(" : ");
        if (chance.nextInt(3) == 0) {
            List<String> heads = new ArrayList<>(List.of(halves[0].split(" , ")));
            java.util.Collections.shuffle(heads, chance);
            sentence = String.join(chance.nextBoolean() ? " , " : ",", heads) + " : " + halves[1];
        }
        if (chance.nextInt(5) == 0) sentence = sentence + " , " + halves[1];
        if (chance.nextInt(5) == 0) sentence = halves[0] + " , " + sentence;
        return pair.tell(spoil(sentence, chance.nextInt(3) == 0), "question");
    }
}
