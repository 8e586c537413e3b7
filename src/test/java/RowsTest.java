/** Promises 8 to 12: row, cell, holds, found, tie. */
public final class RowsTest {
    private static final String TABLES = "table person name text , town text ; table bill who person , day number , sum number ;"
        + " table town name text , land text ;";
    private static final String ROWS = "person marta ulm ; person anton bonn ; person martas ulm ; bill 0 610 45 ; bill 1 610 200 ;"
        + " bill 0 703 150 ; town ulm swabia ; town bonn rhine ;";

    public static void main(String[] args) {
        row();
        cell();
        holdsWords();
        holdsNear();
        holdsNumbers();
        holdsNothing();
        ties();
        manyPointing();
        Check.end();
    }

    private static void row() {
        WordsAndRows x = Feeder.house(TABLES, ROWS);
        int[] tables = {0, 0, 0, 1, 1, 1, 2, 2};
        int[] numbers = {0, 1, 2, 0, 1, 2, 0, 1};
        for (int r = 0; r < 8; r++) {
            Check.due("row(" + r + ", 0)", x.row(r, 0), tables[r]);
            Check.due("row(" + r + ", 1)", x.row(r, 1), numbers[r]);
            Check.due("row(" + r + ", 2)", x.row(r, 2), 1);
        }
        x.hide(0, 4, true);
        Check.due("a row that is not seen", x.row(4, 2), 0);
        Check.due("has its table", x.row(4, 0), 1);
        Check.due("the next one keeps its number", x.row(5, 1), 2);
        for (int r : new int[] {Integer.MIN_VALUE, -1, 8, 30, 32, Integer.MAX_VALUE}) {
            for (int what = 0; what < 3; what++) Check.noSuchRow(x, r, what);
        }
        for (int what : new int[] {Integer.MIN_VALUE, -1, 3, Integer.MAX_VALUE}) Check.noSuchRow(x, 0, what);
    }

    private static void cell() {
        WordsAndRows x = Feeder.house("table a w text , n number ; table b to a , up b , w text ;",
            "a z 0 ; a abcdefgh 9999 ; a zzzzzzzz 7 ; b 1 none xy ; b none 0 a ;");
        Check.due("a letter", x.cell(0, 0), 26);
        Check.due("eight letters", x.cell(1, 0), Feeder.code("abcdefgh"));
        Check.due("the highest word", x.cell(2, 0), 282429536480L);
        Check.due("the first letter is the highest", x.cell(3, 2), 24 * 27 + 25);
        Check.due("a number", x.cell(1, 1), 9999);
        Check.due("the number 0", x.cell(0, 1), 0);
        Check.due("a key", x.cell(3, 0), 1);
        Check.due("a key, over all tables", x.cell(4, 1), 3);
        Check.due("none", x.cell(3, 1), -1);
        for (int column : new int[] {Integer.MIN_VALUE, -1, 2, 3, 4, 5, Integer.MAX_VALUE}) {
            Check.due("no column " + column, x.cell(0, column), -1);
        }
        for (int row : new int[] {Integer.MIN_VALUE, -1, 5, 30, 32, Integer.MAX_VALUE}) Check.due("no row " + row, x.cell(row, 0), -1);
        x.hide(0, 3, true);
        Check.due("a key to a row that is not seen", x.cell(4, 1), -1);
        Check.due("a cell of a row that is not seen", x.cell(3, 2), -1);
        x.hide(0, 3, false);
        Check.due("a key to a row seen again", x.cell(4, 1), 3);
    }

    private static int price(WordsAndRows x, String ask, int row) {
        Check.due("ask: " + ask, Feeder.ask(x, ask), 0);
        return x.holds(row, 0);
    }

    private static void holdsWords() {
        WordsAndRows x = Feeder.house("table town name text , land text , size number ; table name towns town , x number ;",
            "town ulm lands 5 ; town ulms ulm 6 ; town size town 7 ; town abcdefgh abcdefg 8 ; name 0 1 ;");
        Check.due("a cell is it", price(x, "ulm", 0), 0);
        Check.due("a cell is it and s", price(x, "land", 0), 1);
        Check.due("it is the cell and s", price(x, "ulms", 0), 1);
        Check.due("a cell is it, another it and s", price(x, "ulm", 1), 0);
        Check.due("a cell is it, another it less s", price(x, "ulms", 1), 0);
        Check.due("not es, nor two of s", price(x, "ulmss", 0), -1);
        Check.due("the name of the table", price(x, "town", 0), 3);
        Check.due("the name of the table, and a cell", price(x, "town", 2), 0);
        Check.due("the name of the table and s", price(x, "towns", 0), -1);
        Check.due("the name of the table and s, but a cell and s", price(x, "towns", 2), 1);
        Check.due("the name of a column", price(x, "size", 0), 4);
        Check.due("the name of a column, and a cell", price(x, "size", 2), 0);
        Check.due("the name of the table of a key", price(x, "town", 4), -1);
        Check.due("the name of a column, not the table", price(x, "towns", 4), 4);
        Check.due("the name of the table, not of another's column", price(x, "name", 4), 3);
        Check.due("the name of a column, not of another table", price(x, "name", 0), 4);
        Check.due("eight letters and s are none", price(x, "abcdefgh", 3), 0);
        Check.due("nothing like it", price(x, "abcdef", 3), -1);
        Feeder.ask(x, "abcdefgs");
        Check.due("seven letters and s", x.holds(3, 0), 1);
        Check.due("how many rows hold it", x.found(0), 1);
        Feeder.ask(x, "ulm name");
        Check.due("found 0", x.found(0), 2);
        Check.due("found 1", x.found(1), 5);
        Check.due("found 2", x.found(2), -1);
        Check.due("found -1", x.found(-1), -1);
    }

    private static void holdsNear() {
        WordsAndRows x = Feeder.house("table elm k text , n number ;", "elm ulm 5 ; elm abcdefgh 6 ; elm b 7 ;");
        Check.due("near: it is it", price(x, "near ulm", 0), 0);
        Check.due("near: changed", price(x, "near elm", 0), 2);
        Check.due("near: changed last", price(x, "near ulk", 0), 2);
        Check.due("near: left out", price(x, "near um", 0), 2);
        Check.due("near: left out first", price(x, "near lm", 0), 2);
        Check.due("near: put in", price(x, "near uulm", 0), 2);
        Check.due("near: put in last", price(x, "near ulms", 0), 2);
        Check.due("near: put in ahead", price(x, "near xulm", 0), 2);
        Check.due("near: two changed", price(x, "near eln", 0), -1);
        Check.due("near: two put in", price(x, "near ulmss", 0), -1);
        Check.due("near: two left out", price(x, "near u", 0), -1);
        Check.due("near: two that changed places", price(x, "near lum", 0), -1);
        Check.due("near: one left out and one put in", price(x, "near lme", 0), -1);
        Check.due("near: the name of a table or column is no cell", price(x, "near k", 0), -1);
        Check.due("near: one letter for another", price(x, "near k", 2), 2);
        Check.due("near: eight letters", price(x, "near abcdefgx", 1), 2);
        Check.due("near: seven letters", price(x, "near bcdefgh", 1), 2);
        Check.due("near: a number's digits are no letters", price(x, "near n", 0), -1);
    }

    private static void holdsNumbers() {
        WordsAndRows x = Feeder.house("table a m number , n number , k text ; table b to a , k text ;", "a 5 100 x ; a 0 0 y ; b 0 z ; b 1 z ;");
        Check.due("over: below both", price(x, "over 4", 0), 1);
        Check.due("over: between", price(x, "over 99", 0), 1);
        Check.due("over: it itself", price(x, "over 100", 0), -1);
        Check.due("under: above the less", price(x, "under 6", 0), 1);
        Check.due("under: it itself", price(x, "under 5", 0), -1);
        Check.due("over 0", price(x, "over 0", 1), -1);
        Check.due("under 0", price(x, "under 0", 1), -1);
        Check.due("under 1", price(x, "under 0001", 1), 1);
        Check.due("over 9999", price(x, "over 9999", 0), -1);
        Check.due("a key is no number: under", price(x, "under 9999", 2), -1);
        Check.due("a key is no number: over", price(x, "over 0", 3), -1);
        Feeder.ask(x, "under 9999");
        Check.due("found", x.found(0), 2);
    }

    private static void holdsNothing() {
        WordsAndRows x = Feeder.house(TABLES, ROWS);
        Check.due("no ask: holds", x.holds(0, 0), -1);
        Check.due("no ask: found", x.found(0), -1);
        Feeder.ask(x, "ulm person");
        for (int row : new int[] {Integer.MIN_VALUE, -1, 8, 30, 32, Integer.MAX_VALUE}) Check.due("holds: no row " + row, x.holds(row, 0), -1);
        for (int term : new int[] {Integer.MIN_VALUE, -1, 2, 3, 4, Integer.MAX_VALUE}) {
            Check.due("holds: no term " + term, x.holds(0, term), -1);
            Check.due("found: no term " + term, x.found(term), -1);
        }
        Check.due("found by all", x.found(0), 3);
        x.hide(0, 2, true);
        Check.due("a row not seen", x.holds(2, 0), -1);
        Check.due("found by those seen", x.found(0), 2);
        Check.due("by names, too", x.found(1), 2);
    }

    private static void ties() {
        WordsAndRows x = Feeder.house(TABLES, ROWS);
        Check.due("a key", x.tie(3, 0), 1);
        Check.due("either way", x.tie(0, 3), 1);
        Check.due("no key", x.tie(3, 1), -1);
        Check.due("two that point to one are not tied", x.tie(3, 5), -1);
        Check.due("the same word is no tie", x.tie(0, 6), -1);
        Check.due("a row and itself", x.tie(0, 0), -1);
        for (int r : new int[] {Integer.MIN_VALUE, -1, 8, 31, 32, 35, Integer.MAX_VALUE}) {
            Check.due("no row " + r, x.tie(r, 0), -1);
            Check.due("no other row " + r, x.tie(3, r), -1);
        }
        Check.due("three ties", x.count(9), 3);
        x.hide(0, 0, true);
        Check.due("a row that is not seen", x.tie(3, 0), -1);
        Check.due("one tie", x.count(9), 1);
    }

    private static void manyPointing() {
        WordsAndRows x = Feeder.house("table a k text ; table b one a , two a ;",
            "a x ; a y ; b 0 1 ; b 0 1 ; b 0 none ; b 0 0 ; b 0 none ; b 0 none ; b 1 none ;");
        Check.due("six point there by one: 1 + 6 / 3", x.tie(2, 0), 3);
        Check.due("two point there by two", x.tie(2, 1), 1);
        Check.due("the other column's pointing is another one", x.tie(8, 1), 1);
        Check.due("by both columns, the least", x.tie(5, 0), 1);
        Check.due("pairs are counted once", x.count(9), 9);
        x.hide(0, 7, true);
        Check.due("five of those seen: 1 + 5 / 3", x.tie(2, 0), 2);
        x.hide(0, 6, true);
        x.hide(0, 5, true);
        Check.due("three of those seen", x.tie(2, 0), 2);
        x.hide(0, 4, true);
        Check.due("two of those seen", x.tie(2, 0), 1);
        StringBuilder many = new StringBuilder("a x ;");
        for (int i = 0; i < 29; i++) many.append("b 0 none ;");
        WordsAndRows y = Feeder.house("table a k text ; table b one a , two a ;", many.toString());
        Check.due("29 point there: 1 + 29 / 3", y.tie(29, 0), 10);
    }
}
