import java.util.ArrayList;
import java.util.Arrays;
import java.util.Collections;
import java.util.Comparator;
import java.util.HashMap;
import java.util.LinkedHashMap;
import java.util.List;
import java.util.Map;
import java.util.NoSuchElementException;
import java.util.Set;
import java.util.TreeMap;
import java.util.TreeSet;
import java.util.regex.Matcher;
import java.util.regex.Pattern;

/** The document once more, as plainly as can be and without a thought for speed: what WordsAndRows is held against. */
final class Model {
    private static final Set<String> RESERVED = Set.of("table", "text", "number", "none", "near", "over", "under", "of");
    private static final Pattern TOKEN = Pattern.compile("[a-z]+|[0-9]+|[^ \n]");

    private record Token(String text, int place) {
        boolean isWord() { return text.matches("[a-z]{1,8}"); }
        boolean isName() { return isWord() && !RESERVED.contains(text); }
        boolean isNumber() { return text.matches("[0-9]{1,4}"); }
    }

    private static final class Fault extends Exception {
        private static final long serialVersionUID = 1L;
        final int code;
        Fault(int kind, Token token) { code = kind + 16 * token.place(); }
    }

    private record Column(String name, String kind) { }
    private record Table(String name, List<Column> columns) { }
    /** Cells: a String, an Integer, or for a key the Integer of a row or null. */
    private record Row(int table, int number, List<Object> cells) { }
    private record Term(String kind, String value) { }
    private record Joining(int set, int price, int ties) { }
    private record Shape(List<Integer> rows, List<Integer> terms) { }

    private StringBuilder tape = new StringBuilder();
    private List<Table> tables = new ArrayList<>();
    private List<Row> rows = new ArrayList<>();
    private List<Term> terms = new ArrayList<>();
    private boolean[][] hidden = new boolean[4][30];
    private List<Integer> let = new ArrayList<>();
    private Map<List<Integer>, Integer> chosen = new HashMap<>();
    private int[] meant = new int[3];
    private int person = 0;
    private int width = 4;

    // what follows from the above, found anew after every change
    private final Map<Term, int[]> prices = new HashMap<>();
    private List<Integer> looks;
    private List<Joining> joinings;
    private LinkedHashMap<Shape, List<Integer>> questions;

    // ---- reading

    private List<Token> tokens;
    private int at;

    private Token token() { return tokens.get(at); }

    private void startReading() {
        tokens = new ArrayList<>();
        Matcher m = TOKEN.matcher(tape);
        while (m.find()) tokens.add(new Token(m.group(), m.start()));
        tokens.add(new Token("", tape.length()));
        at = 0;
        tape = new StringBuilder();
    }

    private boolean atEnd() { return at == tokens.size() - 1; }

    private void pass(String text) throws Fault {
        if (!token().text().equals(text)) throw new Fault(1, token());
        at++;
    }

    private static int indexOfTable(List<Table> list, String name) {
        for (int i = 0; i < list.size(); i++) if (list.get(i).name().equals(name)) return i;
        return -1;
    }

    private void needName() throws Fault {
        if (!token().isName()) throw new Fault(1, token());
    }

    private int needTable(List<Table> list) throws Fault {
        needName();
        int table = indexOfTable(list, token().text());
        if (table < 0) throw new Fault(2, token());
        return table;
    }

    private List<Table> readTables() throws Fault {
        List<Table> list = new ArrayList<>();
        while (!atEnd()) {
            if (!token().text().equals("table")) throw new Fault(1, token());
            if (list.size() == 5) throw new Fault(5, token());
            at++;
            needName();
            if (indexOfTable(list, token().text()) >= 0) throw new Fault(3, token());
            Table table = new Table(token().text(), new ArrayList<>());
            list.add(table);
            at++;
            readColumn(list, table);
            while (token().text().equals(",")) {
                at++;
                readColumn(list, table);
            }
            pass(";");
        }
        return list;
    }

    private void readColumn(List<Table> list, Table table) throws Fault {
        needName();
        String name = token().text();
        for (Column c : table.columns()) if (c.name().equals(name)) throw new Fault(3, token());
        if (table.columns().size() == 4) throw new Fault(5, token());
        at++;
        String kind = token().text();
        if (!kind.equals("text") && !kind.equals("number")) needTable(list);
        at++;
        table.columns().add(new Column(name, kind));
    }

    private List<Row> readRows() throws Fault {
        List<Row> list = new ArrayList<>(rows);
        while (!atEnd()) {
            int table = needTable(tables);
            if (list.size() == 30) throw new Fault(5, token());
            at++;
            List<Object> cells = new ArrayList<>();
            for (Column column : tables.get(table).columns()) cells.add(readCell(column.kind(), list));
            pass(";");
            list.add(new Row(table, (int) list.stream().filter(r -> r.table() == table).count(), cells));
        }
        return list;
    }

    private Object readCell(String kind, List<Row> list) throws Fault {
        Token t = token();
        at++;
        if (kind.equals("text")) {
            if (!t.isName()) throw new Fault(1, t);
            return t.text();
        }
        if (!kind.equals("number") && t.text().equals("none")) return null;
        if (!t.isNumber()) throw new Fault(1, t);
        int n = Integer.parseInt(t.text());
        if (kind.equals("number")) return n;
        int table = indexOfTable(tables, kind);
        for (int i = 0; i < list.size(); i++) {
            if (list.get(i).table() == table && list.get(i).number() == n) return i;
        }
        throw new Fault(4, t);
    }

    private void readTerm(List<Term> list) throws Fault {
        Token first = token();
        boolean numbers = first.text().equals("over") || first.text().equals("under");
        boolean nears = first.text().equals("near");
        if (!numbers && !nears && !first.isName()) throw new Fault(1, first);
        if (list.size() == 4) throw new Fault(5, first);
        at++;
        if (numbers || nears) {
            Token second = token();
            if (numbers ? !second.isNumber() : !second.isName()) throw new Fault(1, second);
            at++;
            String value = numbers ? Integer.toString(Integer.parseInt(second.text())) : second.text();
            list.add(new Term(first.text(), value));
        } else {
            list.add(new Term("", first.text()));
        }
    }

    private Shape readQuestion(List<Term> list) throws Fault {
        List<Integer> counts = new ArrayList<>(Collections.nCopies(tables.size(), 0));
        List<Integer> places = new ArrayList<>();
        int names = 0;
        while (true) {
            int table = needTable(tables);
            if (names == 5) throw new Fault(5, token());
            names++;
            counts.set(table, counts.get(table) + 1);
            at++;
            if (!token().text().equals(",")) break;
            at++;
        }
        pass(":");
        while (true) {
            readTerm(list);
            pass("of");
            places.add(needTable(tables));
            at++;
            if (!token().text().equals(",")) break;
            at++;
        }
        if (!atEnd()) throw new Fault(1, token());
        return new Shape(counts, places);
    }

    // ---- what is seen

    private boolean told(int row) { return row >= 0 && row < rows.size(); }
    private boolean seen(int row) { return told(row) && !hidden[person][row]; }

    private List<Integer> seenRows() {
        List<Integer> list = new ArrayList<>();
        for (int r = 0; r < rows.size(); r++) if (seen(r)) list.add(r);
        return list;
    }

    private String kind(int row, int column) { return tables.get(rows.get(row).table()).columns().get(column).kind(); }

    private List<String> words(int row) {
        List<String> list = new ArrayList<>();
        for (Object cell : rows.get(row).cells()) if (cell instanceof String s) list.add(s);
        return list;
    }

    static boolean oneLetter(String from, String to) {
        Set<String> all = new TreeSet<>();
        for (int i = 0; i <= from.length(); i++) {
            for (char c = 'a'; c <= 'z'; c++) {
                all.add(from.substring(0, i) + c + from.substring(i));
                if (i < from.length()) all.add(from.substring(0, i) + c + from.substring(i + 1));
            }
            if (i < from.length()) all.add(from.substring(0, i) + from.substring(i + 1));
        }
        all.remove(from);
        return all.contains(to);
    }

    private int price(int row, Term term) {
        int[] known = prices.computeIfAbsent(term, t -> {
            int[] all = new int[rows.size()];
            for (int r = 0; r < all.length; r++) all[r] = findPrice(r, t);
            return all;
        });
        return known[row];
    }

    private int findPrice(int row, Term term) {
        int best = 99;
        Table table = tables.get(rows.get(row).table());
        if (term.kind().isEmpty()) {
            for (String w : words(row)) {
                if (w.equals(term.value())) best = Math.min(best, 0);
                if (w.equals(term.value() + "s") || term.value().equals(w + "s")) best = Math.min(best, 1);
            }
            if (table.name().equals(term.value())) best = Math.min(best, 3);
            for (Column c : table.columns()) if (c.name().equals(term.value())) best = Math.min(best, 4);
        } else if (term.kind().equals("near")) {
            for (String w : words(row)) {
                if (w.equals(term.value())) best = Math.min(best, 0);
                else if (oneLetter(w, term.value())) best = Math.min(best, 2);
            }
        } else {
            int n = Integer.parseInt(term.value());
            for (int c = 0; c < table.columns().size(); c++) {
                if (!kind(row, c).equals("number")) continue;
                int value = (Integer) rows.get(row).cells().get(c);
                if (term.kind().equals("over") ? value > n : value < n) best = Math.min(best, 1);
            }
        }
        return best == 99 ? -1 : best;
    }

    private Integer key(int row, int column) {
        String kind = kind(row, column);
        if (kind.equals("text") || kind.equals("number")) return null;
        Integer to = (Integer) rows.get(row).cells().get(column);
        return to != null && seen(to) ? to : null;
    }

    private int tiePrice(int a, int b) {
        if (!seen(a) || !seen(b) || a == b) return -1;
        int best = Math.min(keyPrice(a, b), keyPrice(b, a));
        for (int code : let) {
            if (letTies(code, a, b) || letTies(code, b, a)) best = Math.min(best, 3);
        }
        return best == 99 ? -1 : best;
    }

    private int keyPrice(int a, int b) {
        int best = 99;
        for (int c = 0; c < rows.get(a).cells().size(); c++) {
            Integer to = key(a, c);
            if (to == null || to != b) continue;
            int n = 0;
            for (int r : seenRows()) {
                if (rows.get(r).table() == rows.get(a).table() && key(r, c) != null && key(r, c) == b) n++;
            }
            best = Math.min(best, 1 + n / 3);
        }
        return best;
    }

    private boolean letTies(int code, int a, int b) {
        int from = code / 20;
        int to = code % 20;
        return rows.get(a).table() == from / 4 && rows.get(b).table() == to / 4
            && rows.get(a).cells().get(from % 4).equals(rows.get(b).cells().get(to % 4));
    }

    private List<Integer> offers() {
        List<Integer> list = new ArrayList<>();
        for (int from = 0; from < 20; from++) {
            for (int to = 0; to < 20; to++) {
                if (from / 4 == to / 4 || !isText(from) || !isText(to)) continue;
                List<Object> first = cells(from);
                List<Object> second = cells(to);
                boolean different = new java.util.HashSet<>(second).size() == second.size();
                if (!first.isEmpty() && !second.isEmpty() && different && second.containsAll(first)) list.add(from * 20 + to);
            }
        }
        return list;
    }

    private boolean isText(int column) {
        return column / 4 < tables.size() && column % 4 < tables.get(column / 4).columns().size()
            && tables.get(column / 4).columns().get(column % 4).kind().equals("text");
    }

    private List<Object> cells(int column) {
        List<Object> list = new ArrayList<>();
        for (int r : seenRows()) if (rows.get(r).table() == column / 4) list.add(rows.get(r).cells().get(column % 4));
        return list;
    }

    // ---- joinings

    private static List<Integer> members(int set) {
        List<Integer> list = new ArrayList<>();
        for (int r = 0; r < 31; r++) if ((set >> r & 1) != 0) list.add(r);
        return list;
    }

    private boolean hangs(int set, int[][] prices) {
        if (set == 0) return false;
        return treeSum(set, prices) >= 0;
    }

    /** Kruskal's way; -1 if the set does not hang together. */
    private int treeSum(int set, int[][] prices) {
        List<Integer> list = members(set);
        int[] group = new int[31];
        for (int r : list) group[r] = r;
        List<int[]> edges = new ArrayList<>();
        for (int a : list) for (int b : list) if (a < b && prices[a][b] >= 0) edges.add(new int[] {prices[a][b], a, b});
        edges.sort(Comparator.comparingInt(e -> e[0]));
        int sum = 0;
        int left = list.size() - 1;
        for (int[] e : edges) {
            int ga = group[e[1]];
            int gb = group[e[2]];
            if (ga == gb) continue;
            for (int r : list) if (group[r] == gb) group[r] = ga;
            sum += e[0];
            left--;
        }
        return left == 0 ? sum : -1;
    }

    private boolean holdsAll(int set, List<Term> wanted) {
        for (Term term : wanted) {
            boolean some = false;
            for (int r : members(set)) some |= price(r, term) >= 0;
            if (!some) return false;
        }
        return true;
    }

    private void subsets(List<Integer> from, int start, int set, int size, List<Integer> into) {
        if (size == 0) {
            into.add(set);
            return;
        }
        for (int i = start; i < from.size(); i++) subsets(from, i + 1, set | 1 << from.get(i), size - 1, into);
    }

    private int[][] allTies() {
        int[][] prices = new int[31][31];
        for (int[] line : prices) Arrays.fill(line, -1);
        for (int a = 0; a < rows.size(); a++) for (int b = 0; b < rows.size(); b++) prices[a][b] = tiePrice(a, b);
        return prices;
    }

    private void find() {
        if (looks != null) return;
        int[][] prices = allTies();
        looks = new ArrayList<>();
        for (int size = 1; size <= width; size++) {
            List<Integer> all = new ArrayList<>();
            subsets(seenRows(), 0, 0, size, all);
            Collections.sort(all);
            for (int set : all) if (hangs(set, prices)) looks.add(set);
        }
        joinings = joiningsOf(terms, prices);
        joinings.sort(Comparator.comparingInt(Joining::price).thenComparingInt(j -> Integer.bitCount(j.set())).thenComparingInt(Joining::set));
        questions = new LinkedHashMap<>();
        for (int k = 0; k < joinings.size(); k++) questions.computeIfAbsent(shape(k), s -> new ArrayList<>()).add(k);
    }

    private List<Joining> joiningsOf(List<Term> wanted, int[][] prices) {
        List<Joining> list = new ArrayList<>();
        for (int set : looks) {
            if (!holdsAll(set, wanted)) continue;
            boolean least = true;
            for (int r : members(set)) {
                int rest = set & ~(1 << r);
                if (hangs(rest, prices) && holdsAll(rest, wanted)) least = false;
            }
            if (!least) continue;
            int ties = treeSum(set, prices);
            int price = ties;
            for (Term term : wanted) price += price(placeIn(set, term), term);
            list.add(new Joining(set, price, ties));
        }
        return list;
    }

    private int placeIn(int set, Term term) {
        int best = -1;
        for (int r : members(set)) {
            if (price(r, term) >= 0 && (best < 0 || price(r, term) < price(best, term))) best = r;
        }
        return best;
    }

    private Shape shape(int k) {
        int set = joinings.get(k).set();
        List<Integer> counts = new ArrayList<>(Collections.nCopies(tables.size(), 0));
        for (int r : members(set)) counts.set(rows.get(r).table(), counts.get(rows.get(r).table()) + 1);
        List<Integer> places = new ArrayList<>();
        for (Term term : terms) places.add(rows.get(placeIn(set, term)).table());
        return new Shape(counts, places);
    }

    private Shape questionAt(int question) {
        if (terms.isEmpty()) return null;
        find();
        return question >= 0 && question < questions.size() ? new ArrayList<>(questions.keySet()).get(question) : null;
    }

    private int timesChosen(Shape shape) { return chosen.getOrDefault(shape.rows(), 0); }

    private int rank(Shape shape) {
        List<Shape> list = new ArrayList<>(questions.keySet());
        list.sort(Comparator.comparingInt(s -> -timesChosen(s)));
        return list.indexOf(shape);
    }

    String sentence(int question) {
        Shape shape = questionAt(question);
        if (shape == null) return null;
        List<String> names = new ArrayList<>();
        for (int t = 0; t < tables.size(); t++) for (int n = 0; n < shape.rows().get(t); n++) names.add(tables.get(t).name());
        List<String> told = new ArrayList<>();
        for (int i = 0; i < terms.size(); i++) {
            Term term = terms.get(i);
            String text = term.kind().isEmpty() ? term.value() : term.kind() + " " + term.value();
            told.add(text + " of " + tables.get(shape.terms().get(i)).name());
        }
        return String.join(" , ", names) + " : " + String.join(" , ", told);
    }

    static long code(String word) {
        long code = 0;
        for (char c : word.toCharArray()) code = code * 27 + (c - 'a' + 1);
        return code;
    }

    private void changed() {
        looks = null;
        prices.clear();
    }

    // ---- the face

    int feed(long a, long b, long c) {
        for (long x : new long[] {a, b, c}) {
            for (int i = 7; i >= 0; i--) {
                int sign = (int) (x >> (8 * i)) & 255;
                if ((sign == 10 || sign >= 32 && sign <= 126) && tape.length() < 1000) tape.append((char) sign);
            }
        }
        return tape.length();
    }

    int tables() {
        startReading();
        try {
            tables = readTables();
        } catch (Fault f) {
            return f.code;
        }
        rows = new ArrayList<>();
        terms = new ArrayList<>();
        hidden = new boolean[4][30];
        chosen = new HashMap<>();
        let = new ArrayList<>();
        meant = new int[3];
        changed();
        return 0;
    }

    int rows() {
        startReading();
        try {
            rows = readRows();
        } catch (Fault f) {
            return f.code;
        }
        changed();
        return 0;
    }

    int ask() {
        startReading();
        List<Term> list = new ArrayList<>();
        try {
            do readTerm(list); while (!atEnd());
        } catch (Fault f) {
            return f.code;
        }
        terms = list;
        changed();
        return 0;
    }

    int question() {
        startReading();
        List<Term> list = new ArrayList<>();
        Shape shape;
        try {
            shape = readQuestion(list);
        } catch (Fault f) {
            return 100000 + f.code;
        }
        if (terms.isEmpty() || !list.equals(terms)) return -1;
        find();
        return new ArrayList<>(questions.keySet()).indexOf(shape);
    }

    boolean width(int n) {
        if (n < 1 || n > 5) return false;
        width = n;
        changed();
        return true;
    }

    int row(int row, int what) {
        if (!told(row) || what < 0 || what > 2) throw new NoSuchElementException();
        return what == 0 ? rows.get(row).table() : what == 1 ? rows.get(row).number() : seen(row) ? 1 : 0;
    }

    long cell(int row, int column) {
        if (!seen(row) || column < 0 || column >= rows.get(row).cells().size()) return -1;
        Object cell = rows.get(row).cells().get(column);
        if (cell instanceof String s) return code(s);
        if (kind(row, column).equals("number")) return (Integer) cell;
        return key(row, column) == null ? -1 : key(row, column);
    }

    private boolean term(int term) { return term >= 0 && term < terms.size(); }

    int holds(int row, int term) { return seen(row) && term(term) ? price(row, terms.get(term)) : -1; }

    int found(int term) {
        return !term(term) ? -1 : (int) seenRows().stream().filter(r -> price(r, terms.get(term)) >= 0).count();
    }

    int tie(int a, int b) { return tiePrice(a, b); }

    int joining(int k, int what) {
        if (terms.isEmpty()) return -1;
        find();
        if (k < 0 || k >= joinings.size() || what < 0 || what > 3) return -1;
        Joining j = joinings.get(k);
        if (what == 2) return new ArrayList<>(questions.keySet()).indexOf(shape(k));
        return what == 0 ? j.set() : what == 1 ? j.price() : j.ties();
    }

    int place(int k, int term) {
        if (!term(term)) return -1;
        find();
        return k < 0 || k >= joinings.size() ? -1 : placeIn(joinings.get(k).set(), terms.get(term));
    }

    int looks(int n, int what) {
        if (terms.isEmpty() || n < 0 || n > 1000000 || what < 0 || what > 2) return -1;
        find();
        if (what == 2) return Math.min(n, looks.size());
        if (what == 0) {
            List<Integer> behind = looks.subList(0, Math.min(n, looks.size()));
            return joinings.stream().filter(j -> behind.contains(j.set())).mapToInt(Joining::price).min().orElse(-1);
        }
        if (n >= looks.size()) return -1;
        int leastTie = 99;
        for (int a : seenRows()) for (int b : seenRows()) if (tiePrice(a, b) >= 0) leastTie = Math.min(leastTie, tiePrice(a, b));
        int bound = (Integer.bitCount(looks.get(n)) - 1) * leastTie;
        for (Term term : terms) {
            int least = seenRows().stream().mapToInt(r -> price(r, term)).filter(p -> p >= 0).min().orElse(-1);
            if (least < 0) return -1;
            bound += least;
        }
        return bound;
    }

    int asked(int question, int what) {
        Shape shape = questionAt(question);
        if (shape == null || what < 0 || what > 4) return -1;
        switch (what) {
            case 0: return questions.get(shape).size();
            case 1: return questions.get(shape).get(0);
            case 2: return timesChosen(shape);
            case 3: return rank(shape);
            default: return sentence(question).length();
        }
    }

    int said(int question, int k) {
        String sentence = sentence(question);
        return sentence == null || k < 0 || k >= sentence.length() ? -1 : sentence.charAt(k);
    }

    int choose(int question) {
        Shape shape = questionAt(question);
        return shape == null ? -1 : chosen.merge(shape.rows(), 1, Integer::sum);
    }

    long parts(int what) {
        if (terms.isEmpty() || what < 0 || what > 1) return -1;
        find();
        TreeMap<String, Integer> with = new TreeMap<>();
        for (Joining j : joinings) {
            Set<String> here = new TreeSet<>();
            for (int r : members(j.set())) here.addAll(words(r));
            for (String w : here) with.merge(w, 1, Integer::sum);
        }
        for (Term term : terms) if (term.kind().isEmpty()) with.remove(term.value());
        String best = null;
        int least = 0;
        for (Map.Entry<String, Integer> e : with.entrySet()) {
            int greater = Math.max(e.getValue(), joinings.size() - e.getValue());
            if (best == null || greater < least) {
                best = e.getKey();
                least = greater;
            }
        }
        return best == null ? -1 : what == 0 ? code(best) : least;
    }

    int left() {
        if (terms.isEmpty()) return -1;
        find();
        if (!joinings.isEmpty()) return -1;
        int[][] prices = allTies();
        int best = -1;
        for (int out = 0; out < (1 << terms.size()) - 1; out++) {
            List<Term> kept = new ArrayList<>();
            for (int i = 0; i < terms.size(); i++) if ((out >> i & 1) == 0) kept.add(terms.get(i));
            boolean fewer = best < 0 || Integer.bitCount(out) < Integer.bitCount(best);
            if (fewer && !joiningsOf(kept, prices).isEmpty()) best = out;
        }
        return best;
    }

    long near(int term, int i) {
        if (!term(term) || !terms.get(term).kind().isEmpty()) return -1;
        TreeSet<String> set = new TreeSet<>();
        for (int r : seenRows()) for (String w : words(r)) if (oneLetter(w, terms.get(term).value())) set.add(w);
        return i < 0 || i >= set.size() ? -1 : code(new ArrayList<>(set).get(i));
    }

    int meant(int set) {
        if (terms.isEmpty() || meant[0] == 40 || set == 0) return -1;
        if (rows.size() < 31 && (set >>> rows.size()) != 0) return -1;
        find();
        for (int k = 0; k < joinings.size(); k++) {
            if (joinings.get(k).set() == set) {
                if (k < 3) meant[1]++;
                meant[2]++;
            }
        }
        return meant[0]++;
    }

    int judged(int what) { return what < 0 || what > 2 ? -1 : meant[what]; }

    boolean person(int p) {
        if (p < 0 || p > 3) return false;
        person = p;
        changed();
        return true;
    }

    boolean hide(int p, int row, boolean yes) {
        if (p < 0 || p > 3 || !told(row)) return false;
        hidden[p][row] = yes;
        changed();
        return true;
    }

    int offered(int i) {
        List<Integer> list = offers();
        return i < 0 || i >= list.size() ? -1 : list.get(i);
    }

    boolean lets(int i) {
        int code = offered(i);
        if (code < 0 || let.contains(code) || let.size() == 20) return false;
        let.add(code);
        changed();
        return true;
    }

    int count(int what) {
        switch (what) {
            case 0: return tables.size();
            case 1: return rows.size();
            case 2: return seenRows().size();
            case 3: return terms.size();
            case 4:
                if (terms.isEmpty()) return 0;
                find();
                return joinings.size();
            case 5:
                if (terms.isEmpty()) return 0;
                find();
                return questions.size();
            case 6: return tape.length();
            case 7: return offers().size();
            case 8: return let.size();
            case 9:
                int n = 0;
                for (int a : seenRows()) for (int b : seenRows()) if (a < b && tiePrice(a, b) >= 0) n++;
                return n;
            default: return -1;
        }
    }
}
