import java.util.ArrayList;
import java.util.List;
import java.util.NoSuchElementException;

/** An object and its Model, which get the same calls; what each answers is held against the other. */
final class Pair {
    final WordsAndRows x = new WordsAndRows();
    final Model m = new Model();
    final List<String> log = new ArrayList<>();
    /** An object is used for 512 calls at most. */
    int calls = 0;

    /** Null, or what is not the same. */
    String same(String call, int a, int b) {
        calls++;
        String got = answer(call, a, b, true);
        String due = answer(call, a, b, false);
        log.add(call + "(" + a + ", " + b + ") -> " + got);
        return got.equals(due) ? null : call + "(" + a + ", " + b + ") answered " + got + ", due is " + due;
    }

    /** A text comes on the TAPE and is read. */
    String tell(String text, String call) {
        log.add("tape: " + text.replace("\n", "\\n"));
        for (int from = 0; from < text.length(); from += 24) {
            long[] three = Feeder.pack(text, from);
            calls++;
            if (x.feed(three[0], three[1], three[2]) != m.feed(three[0], three[1], three[2])) return "feed is not the same";
        }
        return same(call, 0, 0);
    }

    boolean lastWasZero() { return log.get(log.size() - 1).endsWith("-> 0"); }

    private String answer(String call, int a, int b, boolean real) {
        try {
            return String.valueOf(answered(call, a, b, real));
        } catch (NoSuchElementException e) {
            return "throws NoSuchElementException";
        }
    }

    private Object answered(String call, int a, int b, boolean real) {
        switch (call) {
            case "tables": return real ? x.tables() : m.tables();
            case "rows": return real ? x.rows() : m.rows();
            case "ask": return real ? x.ask() : m.ask();
            case "question": return real ? x.question() : m.question();
            case "width": return real ? x.width(a) : m.width(a);
            case "row": return real ? x.row(a, b) : m.row(a, b);
            case "cell": return real ? x.cell(a, b) : m.cell(a, b);
            case "holds": return real ? x.holds(a, b) : m.holds(a, b);
            case "found": return real ? x.found(a) : m.found(a);
            case "tie": return real ? x.tie(a, b) : m.tie(a, b);
            case "joining": return real ? x.joining(a, b) : m.joining(a, b);
            case "place": return real ? x.place(a, b) : m.place(a, b);
            case "looks": return real ? x.looks(a, b) : m.looks(a, b);
            case "asked": return real ? x.asked(a, b) : m.asked(a, b);
            case "said": return real ? x.said(a, b) : m.said(a, b);
            case "choose": return real ? x.choose(a) : m.choose(a);
            case "parts": return real ? x.parts(a) : m.parts(a);
            case "left": return real ? x.left() : m.left();
            case "near": return real ? x.near(a, b) : m.near(a, b);
            case "meant": return real ? x.meant(a) : m.meant(a);
            case "judged": return real ? x.judged(a) : m.judged(a);
            case "person": return real ? x.person(a) : m.person(a);
            case "hide": return real ? x.hide(a / 64, a % 64, b != 0) : m.hide(a / 64, a % 64, b != 0);
            case "offered": return real ? x.offered(a) : m.offered(a);
            case "lets": return real ? x.lets(a) : m.lets(a);
            case "count": return real ? x.count(a) : m.count(a);
            default: throw new AssertionError("no such call: " + call);
        }
    }
}
