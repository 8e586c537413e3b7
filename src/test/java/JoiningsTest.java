/** Promises 13, 14, 15, 19 and 20: joining, place, looks, parts, left. */
public final class JoiningsTest {
    private static final int[] STRANGE = {Integer.MIN_VALUE, -2, -1, 1000000, Integer.MAX_VALUE};

    public static void main(String[] args) {
        order();
        leastSets();
        leastTies();
        nothingToJoin();
        place();
        looksAlongAChain();
        looksGoDown();
        looksWithoutAll();
        parts();
        partsOfOrder();
        left();
        Check.end();
    }

    private static WordsAndRows chain() {
        return Feeder.house("table a k text , up a ;", "a p none ; a q 0 ; a r 1 ; a s 2 ;");
    }

    private static void order() {
        WordsAndRows x = Feeder.house("table a k text , l text , up a ;",
            "a ps qs none ; a p u none ; a v q 1 ; a v v 1 ; a v v 1 ; a ps qs none ; a p q none ; a w w none ;");
        Feeder.ask(x, "p q");
        int[] sets = {64, 1, 32, 6};
        int[] prices = {0, 2, 2, 2};
        int[] ties = {0, 0, 0, 2};
        Check.due("how many", x.count(4), 4);
        for (int k = 0; k < 4; k++) {
            Check.due("set " + k, x.joining(k, 0), sets[k]);
            Check.due("price " + k, x.joining(k, 1), prices[k]);
            Check.due("question " + k, x.joining(k, 2), k < 3 ? 0 : 1);
            Check.due("ties " + k, x.joining(k, 3), ties[k]);
        }
        for (int k : new int[] {-1, 4, Integer.MIN_VALUE, Integer.MAX_VALUE}) {
            for (int what = 0; what < 4; what++) Check.due("no joining " + k, x.joining(k, what), -1);
        }
        for (int what : new int[] {-1, 4, Integer.MIN_VALUE, Integer.MAX_VALUE}) Check.due("no what " + what, x.joining(0, what), -1);
        x.hide(0, 6, true);
        Check.due("the next one is the first when that is not seen", x.joining(0, 0), 1);
    }

    private static void leastSets() {
        WordsAndRows x = Feeder.house("table p k text , up p ;", "p q none ; p r 0 ; p q 1 ; p t 2 ;");
        Feeder.ask(x, "p q");
        Check.due("one row is enough", x.count(4), 2);
        Check.due("by its name and its cell", x.joining(0, 1), 3);
        Feeder.ask(x, "q r");
        Check.due("not with what can be left out", x.count(4), 2);
        Check.due("the first and the second", x.joining(0, 0), 3);
        Check.due("the second and the third", x.joining(1, 0), 6);
        Feeder.ask(x, "r t");
        Check.due("a row between that holds none", x.joining(0, 0), 14);
        Check.due("and no other", x.count(4), 1);
        Feeder.ask(x, "q q q q");
        Check.due("the same term again needs no other row", x.joining(0, 0), 1);
        Feeder.ask(x, "p p");
        Check.due("the price is that of each term", x.joining(0, 1), 6);
    }

    private static void leastTies() {
        WordsAndRows x = Feeder.house("table a k text , f a , g a ;",
            "a x none none ; a y 0 none ; a z 0 1 ; a v 0 none ; a v 0 none ; a v 0 none ; a v 0 none ;");
        Check.due("tie 1 0", x.tie(1, 0), 3);
        Check.due("tie 2 0", x.tie(2, 0), 3);
        Check.due("tie 2 1", x.tie(2, 1), 1);
        Feeder.ask(x, "x y z");
        Check.due("the three of a ring", x.joining(0, 0), 7);
        Check.due("hang together by two of three ties", x.joining(0, 3), 4);
        Check.due("no price for the words themselves", x.joining(0, 1), 4);
        Check.due("no other joining", x.count(4), 1);
        WordsAndRows y = Feeder.house("table a k text , f a , g a ;",
            "a x none none ; a y 0 none ; a z 1 0 ; a v 0 none ; a v 0 none ; a v 0 none ; a v 0 none ; a v 0 none ;");
        Feeder.ask(y, "x y z");
        Check.due("the dearest tie of a ring is not taken", y.joining(0, 3), 2);
        Feeder.ask(x, "near xx ys k v");
        Check.due("terms at 2, 1, 4 and 0, ties 1 and 3 and 3", x.joining(0, 1), 2 + 1 + 4 + 3 + 3);
    }

    private static void nothingToJoin() {
        WordsAndRows x = chain();
        for (int what = 0; what < 4; what++) Check.due("no ask: joining(0, " + what + ")", x.joining(0, what), -1);
        Check.due("no ask: count(4)", x.count(4), 0);
        Check.due("no ask: count(5)", x.count(5), 0);
        Feeder.ask(x, "p zz");
        Check.due("a term nowhere", x.count(4), 0);
        Check.due("no first joining", x.joining(0, 0), -1);
        Check.due("no question", x.count(5), 0);
        Check.due("none asked", x.asked(0, 0), -1);
    }

    private static void place() {
        WordsAndRows x = Feeder.house("table a k text , up a ; table b k text , to a ;", "a xs none ; a y 0 ; b x 1 ; b x 1 ;");
        Feeder.ask(x, "x y a");
        Check.due("x and y", x.joining(0, 0), 6);
        Check.due("x at the least price", x.place(0, 0), 2);
        Check.due("y", x.place(0, 1), 1);
        Check.due("a", x.place(0, 2), 1);
        Check.due("the second joining", x.place(1, 0), 3);
        Check.due("the third joining", x.joining(2, 0), 3);
        Check.due("x there", x.place(2, 0), 0);
        Check.due("of equal ones the first", x.place(2, 2), 0);
        for (int n : new int[] {-1, 3, 4, Integer.MIN_VALUE, Integer.MAX_VALUE}) {
            Check.due("no joining " + n, x.place(n, 0), -1);
            Check.due("no term " + n, x.place(0, n), -1);
        }
        Check.due("no ask", chain().place(0, 0), -1);
    }

    private static void looksAlongAChain() {
        WordsAndRows x = chain();
        Check.due("no ask", x.looks(0, 2), -1);
        Feeder.ask(x, "p s");
        int[] bounds = {0, 0, 0, 0, 1, 1, 1, 2, 2, 3, -1, -1};
        for (int n = 0; n < bounds.length; n++) {
            Check.due("least behind " + n, x.looks(n, 0), n < 10 ? -1 : 3);
            Check.due("bound behind " + n, x.looks(n, 1), bounds[n]);
            Check.due("sets behind " + n, x.looks(n, 2), Math.min(n, 10));
        }
        Check.due("the most looks", x.looks(1000000, 2), 10);
        for (int what = 0; what < 3; what++) {
            Check.due("more looks", x.looks(1000001, what), -1);
            Check.due("less than none", x.looks(-1, what), -1);
            Check.due("far less", x.looks(Integer.MIN_VALUE, what), -1);
        }
        for (int what : STRANGE) Check.due("no what " + what, x.looks(5, what), -1);
        Check.due("no what 3", x.looks(5, 3), -1);
        x.width(3);
        Check.due("three rows at most", x.looks(100, 2), 9);
        Check.due("no joining then", x.looks(100, 0), -1);
        Check.due("no bound behind all", x.looks(9, 1), -1);
        x.width(4);
        Feeder.ask(x, "q r");
        Check.due("the second pair is not looked at yet", x.looks(5, 0), -1);
        Check.due("now it is", x.looks(6, 0), 1);
        x.hide(0, 0, true);
        Check.due("sets of those seen", x.looks(100, 2), 6);
    }

    private static void looksGoDown() {
        WordsAndRows x = Feeder.house("table a k text , l text , up a ;", "a ps qs none ; a p u none ; a v q 1 ;");
        Feeder.ask(x, "p q");
        int[] least = {-1, 2, 2, 2, 1, 1};
        int[] bounds = {0, 0, 0, 1, -1, -1};
        for (int n = 0; n < least.length; n++) {
            Check.due("least behind " + n, x.looks(n, 0), least[n]);
            Check.due("bound behind " + n, x.looks(n, 1), bounds[n]);
        }
        WordsAndRows y = Feeder.house("table a k text ; table b k text ;", "a x ; b x ;");
        y.lets(0);
        Feeder.ask(y, "a b");
        Check.due("the least prices of terms", y.looks(0, 1), 6);
        Check.due("and the least tie", y.looks(2, 1), 9);
        Check.due("which is what it costs", y.looks(3, 0), 9);
    }

    private static void looksWithoutAll() {
        WordsAndRows x = chain();
        Feeder.ask(x, "p zz");
        Check.due("no bound where a term is nowhere", x.looks(0, 1), -1);
        Check.due("sets are looked at all the same", x.looks(100, 2), 10);
        WordsAndRows y = Feeder.house("table a k text ;", "a x ; a y ;");
        Feeder.ask(y, "x y");
        Check.due("a bound for single rows without a tie", y.looks(1, 1), 0);
        Check.due("no tie for more rows", y.looks(2, 1), -1);
        Check.due("two sets", y.looks(9, 2), 2);
        WordsAndRows z = new WordsAndRows();
        Feeder.ask(z, "x");
        Check.due("no rows: sets", z.looks(7, 2), 0);
        Check.due("no rows: bound", z.looks(0, 1), -1);
        Check.due("no rows: least", z.looks(7, 0), -1);
    }

    private static void parts() {
        WordsAndRows x = Feeder.house("table a k text , l text ; table n m number ;", "a x t ; a x x ; a y u ; a z u ; n 5 ;");
        Check.due("no ask", x.parts(0), -1);
        Feeder.ask(x, "a");
        // u and x part two from two: u is the first in the order of letters
        Check.due("the word", x.parts(0), Feeder.code("u"));
        Check.due("the greater number", x.parts(1), 2);
        for (int what : new int[] {-1, 2, Integer.MIN_VALUE, Integer.MAX_VALUE}) Check.due("no what " + what, x.parts(what), -1);
        Feeder.ask(x, "a u");
        Check.due("no word of a term: y and z part one from one", x.parts(0), Feeder.code("y"));
        Check.due("the greater number", x.parts(1), 1);
        Feeder.ask(x, "near zz");
        Check.due("of rows in joinings alone", x.parts(0), Feeder.code("u"));
        Check.due("one joining", x.parts(1), 1);
        Feeder.ask(x, "near u");
        Check.due("a near word is no term as a word", x.parts(0), Feeder.code("u"));
        Feeder.ask(x, "u k k near u");
        Check.due("unless it is one, too", x.parts(0), Feeder.code("y"));
        Feeder.ask(x, "n");
        Check.due("rows without words", x.parts(0), -1);
        Check.due("no greater number", x.parts(1), -1);
        Feeder.ask(x, "zzz");
        Check.due("no joining", x.parts(0), -1);
        WordsAndRows y = Feeder.house("table a k text , up a ;", "a p none ; a q 0 ; a q 1 ;");
        Feeder.ask(y, "p up");
        Check.due("a term is left out of the words", y.parts(0), -1);
    }

    private static void partsOfOrder() {
        WordsAndRows x = Feeder.house("table t k text ;", "t b ; t abc ; t ab ; t abb ; t aba ; t c ;");
        Feeder.ask(x, "t");
        Check.due("a shorter word ahead of a longer one", x.parts(0), Feeder.code("ab"));
        Check.due("one of six", x.parts(1), 5);
        x.hide(0, 2, true);
        Check.due("then by letters", x.parts(0), Feeder.code("aba"));
        WordsAndRows y = Feeder.house("table t k text , up t ;", "t m none ; t n 0 ; t n 0 ; t m 1 ; t o 3 ;");
        Feeder.ask(y, "m n");
        // joinings 0 1, 0 2, 1 3: both words are terms
        Check.due("no word but the terms", y.parts(0), -1);
        Feeder.ask(y, "m k k");
        Check.due("n is in no joining of one row that holds m", y.parts(0), -1);
    }

    private static void left() {
        WordsAndRows x = Feeder.house("table a k text , up a ; table b k text ;", "a marta none ; a bill 0 ; b anton ;");
        Check.due("no ask", x.left(), -1);
        String[] asks = {"marta", "marta bill", "zz", "zz yy", "zz yy xx ww", "marta zz", "zz marta", "marta anton", "marta anton zz",
            "zz marta anton", "anton marta bill", "marta anton bill zz", "zz yy xx marta", "marta zz yy xx", "b a marta", "a b anton bill",
            "marta bill anton", "a marta bill anton"};
        int[] due = {-1, -1, -1, -1, -1, 2, 1, 1, 5,
            3, 1, 10, 7, 14, 1, 6,
            4, 8};
        for (int i = 0; i < asks.length; i++) {
            Feeder.ask(x, asks[i]);
            Check.due("left of: " + asks[i], x.left(), due[i]);
        }
        x.width(1);
        Feeder.ask(x, "marta bill");
        Check.due("left where rows are too many", x.left(), 1);
        x.hide(0, 1, true);
        Check.due("left where one is not seen", x.left(), 2);
        x.hide(0, 0, true);
        Check.due("left where none is seen", x.left(), -1);
    }
}
