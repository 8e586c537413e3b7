/** Promises 24 to 28: person, hide, offered, lets, count. */
public final class RightsTest {
    private static final int[] STRANGE = {Integer.MIN_VALUE, -2, -1, 64, 1000000, Integer.MAX_VALUE};

    public static void main(String[] args) {
        person();
        hide();
        asIfNotThere();
        offered();
        offeredOfSeen();
        lets();
        letsForAll();
        letsAtMost();
        letOrKey();
        count();
        Check.end();
    }

    private static void person() {
        WordsAndRows x = Feeder.house("table a k text ;", "a x ; a x ;");
        for (int p = 0; p < 4; p++) Check.due("person " + p, x.person(p), true);
        for (int p : STRANGE) Check.due("no person " + p, x.person(p), false);
        Check.due("no person 4", x.person(4), false);
        x.hide(3, 1, true);
        Check.due("the person that was the last right one asks", x.count(2), 1);
        x.person(0);
        Check.due("another sees all", x.count(2), 2);
        WordsAndRows y = Feeder.house("table a k text ;", "a x ; a x ;");
        y.hide(0, 0, true);
        Check.due("person 0 asks at first", y.count(2), 1);
    }

    private static void hide() {
        WordsAndRows x = Feeder.house("table a k text ;", "a x ; a y ;");
        for (int n : STRANGE) {
            Check.due("no person " + n, x.hide(n, 0, true), false);
            Check.due("no row " + n, x.hide(0, n, true), false);
        }
        Check.due("no person 4", x.hide(4, 0, true), false);
        Check.due("no row 2", x.hide(0, 2, true), false);
        Check.due("no row 32", x.hide(0, 32, true), false);
        Check.due("all are seen", x.count(2), 2);
        Check.due("hide from another", x.hide(1, 0, true), true);
        Check.due("is seen here", x.row(0, 2), 1);
        x.person(1);
        Check.due("is not seen there", x.row(0, 2), 0);
        Check.due("hide again", x.hide(1, 0, true), true);
        Check.due("is still not seen", x.row(0, 2), 0);
        Check.due("show one that is not hidden", x.hide(1, 1, false), true);
        Check.due("is seen", x.row(1, 2), 1);
        Check.due("show", x.hide(1, 0, false), true);
        Check.due("is seen again", x.row(0, 2), 1);
        x.hide(1, 1, true);
        Feeder.rows(x, "a z ;");
        Check.due("a new row is seen", x.row(2, 2), 1);
        Check.due("the other is not", x.count(2), 2);
    }

    private static void asIfNotThere() {
        WordsAndRows x = Feeder.house("table a k text , up a ;", "a p none ; a q 0 ; a r 1 ; a s 1 ;");
        Feeder.ask(x, "p r");
        Check.due("joined", x.joining(0, 0), 7);
        x.hide(0, 1, true);
        Check.due("not joined without the row between", x.count(4), 0);
        Check.due("no ties", x.count(9), 0);
        Check.due("one to leave out", x.left(), 1);
        Check.due("no key", x.cell(2, 1), -1);
        Check.due("its number is as told", x.row(2, 1), 2);
        x.person(2);
        Check.due("joined for another", x.joining(0, 0), 7);
        Check.due("keys for another", x.cell(2, 1), 1);
        Feeder.rows(x, "a t 1 ;");
        x.person(0);
        Check.due("a row may point to one that is not seen", x.cell(4, 1), -1);
        x.hide(0, 1, false);
        Check.due("and be seen to do so", x.cell(4, 1), 1);
        Check.due("joined again", x.joining(0, 0), 7);
    }

    private static WordsAndRows towns() {
        return Feeder.house("table a k text , l text , n number ; table b k text , m number ;", "a x p 5 ; a x q 5 ; b x 5 ; b y 6 ;");
    }

    private static void offered() {
        WordsAndRows x = towns();
        Check.due("all cells are there, and different there", x.offered(0), 4);
        Check.due("no other", x.offered(1), -1);
        for (int n : STRANGE) Check.due("no offer " + n, x.offered(n), -1);
        Check.due("how many", x.count(7), 1);
        WordsAndRows y = Feeder.house("table a k text , l text ; table b n number , k text ; table c k text , up c ;",
            "a x y ; b 5 x ; b 6 y ; c y none ; c x 0 ;");
        // a.k and a.l are in b.k and c.k, b.k is in c.k and the other way round
        int[] due = {5, 8, 25, 28, 108, 165};
        for (int i = 0; i < due.length; i++) Check.due("in order " + i, y.offered(i), due[i]);
        Check.due("six", y.count(7), 6);
        Check.due("no seventh", y.offered(6), -1);
        WordsAndRows z = Feeder.house("table a k text , l text ; table b k text ;", "a x x ;");
        Check.due("not in one table, nor without rows", z.count(7), 0);
    }

    private static void offeredOfSeen() {
        WordsAndRows x = towns();
        x.hide(0, 1, true);
        Check.due("x in x and y", x.offered(0), 4);
        Check.due("not x and y in x", x.count(7), 1);
        x.hide(0, 3, true);
        Check.due("x in x", x.offered(0), 4);
        Check.due("the other way", x.offered(1), 80);
        x.hide(0, 2, true);
        Check.due("no row there", x.count(7), 0);
        x.person(3);
        Check.due("as others see it", x.count(7), 1);
        Feeder.rows(x, "b x 7 ;");
        Check.due("not different any more", x.count(7), 0);
    }

    private static void lets() {
        WordsAndRows x = towns();
        for (int n : STRANGE) Check.due("no offer " + n, x.lets(n), false);
        Check.due("no offer 1", x.lets(1), false);
        Check.due("none is let", x.count(8), 0);
        Check.due("let", x.lets(0), true);
        Check.due("let again", x.lets(0), false);
        Check.due("one is let", x.count(8), 1);
        Check.due("it is offered still", x.offered(0), 4);
        Check.due("tied", x.tie(0, 2), 3);
        Check.due("tied the other way", x.tie(2, 1), 3);
        Check.due("not by another word", x.tie(0, 3), -1);
        Check.due("nor in one table", x.tie(0, 1), -1);
        Check.due("two ties", x.count(9), 2);
        Feeder.ask(x, "p over 4 b");
        Check.due("joined", x.joining(0, 0), 5);
        Check.due("at the price", x.joining(0, 1), 3 + 0 + 1 + 3);
        Feeder.rows(x, "b x 7 ; a y r 1 ;");
        Check.due("not offered any more", x.count(7), 0);
        Check.due("let still", x.count(8), 1);
        Check.due("rows told later are tied", x.tie(0, 4), 3);
        Check.due("by their words", x.tie(5, 3), 3);
    }

    private static void letsForAll() {
        WordsAndRows x = towns();
        Feeder.ask(x, "p b");
        Check.due("not joined", x.count(4), 0);
        x.lets(0);
        Check.due("joined at once", x.count(4), 1);
        x.person(2);
        Check.due("let for another person", x.tie(0, 2), 3);
        x.hide(2, 2, true);
        Check.due("but not with a row that is not seen", x.tie(0, 2), -1);
        Check.due("no tie", x.count(9), 0);
        Check.due("one is let", x.count(8), 1);
    }

    private static void letsAtMost() {
        StringBuilder tables = new StringBuilder();
        StringBuilder rows = new StringBuilder();
        for (String name : new String[] {"a", "b", "c", "d", "e"}) {
            tables.append("table ").append(name).append(" k text,l text,m text,n text;");
            rows.append(name).append(" x x x x;");
        }
        WordsAndRows x = Feeder.house(tables.toString(), rows.toString());
        Check.due("each column to each of another table", x.count(7), 320);
        Check.due("the first", x.offered(0), 4);
        Check.due("the last", x.offered(319), 19 * 20 + 15);
        Check.due("no more", x.offered(320), -1);
        for (int i = 0; i < 20; i++) Check.due("let " + i, x.lets(i * 16), true);
        Check.due("a 21st", x.lets(1), false);
        Check.due("one that is let", x.lets(0), false);
        Check.due("20 are let", x.count(8), 20);
        Check.due("the tables' rows are tied, once each", x.count(9), 4);
    }

    private static void letOrKey() {
        StringBuilder rows = new StringBuilder("a x ;");
        for (int i = 0; i < 9; i++) rows.append("b x 0 ;");
        WordsAndRows x = Feeder.house("table a k text ; table b k text , to a ;", rows.toString());
        Check.due("by key", x.tie(1, 0), 4);
        Check.due("offered", x.offered(0), 80);
        x.lets(0);
        Check.due("let is less", x.tie(1, 0), 3);
        Check.due("one tie for each", x.count(9), 9);
        x.hide(0, 9, true);
        Check.due("by key again", x.tie(1, 0), 3);
        for (int r = 6; r < 9; r++) x.hide(0, r, true);
        Check.due("five point there", x.tie(1, 0), 2);
    }

    private static void count() {
        WordsAndRows x = towns();
        x.hide(0, 1, true);
        x.lets(0);
        Feeder.ask(x, "p b");
        Feeder.feed(x, "abc\n d");
        int[] due = {2, 4, 3, 2, 1, 1, 6, 1, 1, 1};
        for (int what = 0; what < due.length; what++) Check.due("count(" + what + ")", x.count(what), due[what]);
        Check.due("count(10)", x.count(10), -1);
        for (int what : STRANGE) Check.due("count(" + what + ")", x.count(what), -1);
    }
}
