import java.util.NoSuchElementException;

/** The document's promises 1 to 28, each by itself: every NONE, false and NoSuchElementException that it names, and the first and last numbers that it takes. */
public final class PromiseEdgesTest {
    private static final int LEAST = Integer.MIN_VALUE;
    private static final int GREATEST = Integer.MAX_VALUE;
    private static final int[] FAR = {LEAST, LEAST + 1, -1000000, -32, -2, -1, 30, 31, 32, 33, 63, 64, 65, 1000, 1000001, GREATEST - 1, GREATEST};
    private static final String TABLES = "table person name text , town text ; table bill who person , day number , sum number ;";
    private static final String ROWS = "person marta ulm ; person anton bonn ; bill 0 610 45 ; bill 1 0 200 ; bill none 703 150 ;";

    public static void main(String[] args) {
        promise1();
        promise2();
        promise3();
        promise4();
        promise5();
        promise6();
        promise7();
        promise8();
        promise9();
        promise10();
        promise11();
        promise12();
        promise13();
        promise14();
        promise15();
        promise16();
        promise17();
        promise18();
        promise19();
        promise20();
        promise21();
        promise21Full();
        promise22();
        promise23();
        promise24();
        promise25();
        promise26();
        promise27();
        promise28();
        nothingElseIsThrown();
        Check.end();
    }

    private static WordsAndRows house() {
        return Feeder.house(TABLES, ROWS);
    }

    private static WordsAndRows asked(String ask) {
        WordsAndRows x = house();
        Check.due("ask: " + ask, Feeder.ask(x, ask), 0);
        return x;
    }

    /** 30 rows in 5 tables, each tied to others, and an ask. */
    private static WordsAndRows full() {
        WordsAndRows x = Dense.house("p", "q", "r", "u", "v", "w");
        Feeder.ask(x, "p q");
        return x;
    }

    /** "No TABLE." */
    private static void promise1() {
        WordsAndRows x = new WordsAndRows();
        Check.due("1: no table", x.count(0), 0);
        Check.due("1: no name of one", Feeder.rows(x, "a x ;"), Check.fault(2, 0));
        Check.due("1: nothing on the tape", x.count(6), 0);
        Check.due("1: an empty tape is no ask", x.ask(), Check.fault(1, 0));
        Check.due("1: nor a question", x.question(), 100000 + Check.fault(1, 0));
        Check.due("1: but rows, none", x.rows(), 0);
        Check.due("1: and tables, none", x.tables(), 0);
        Check.due("1: no table still", x.count(0), 0);
    }

    /** "Up to 24 signs come behind the TAPE: the bytes of a, b, c, of each the highest first; ..: how many there are." */
    private static void promise2() {
        WordsAndRows x = Feeder.house("table t k text,l text,m text;", "t abcdefgh ijklmnop qrstuvwx;");
        Check.due("2: 24 signs", x.feed(0x6162636465666768L, 0x2069206a206b206cL, 0x206d206e206f2070L), 24);
        Check.due("2: 24 more", x.feed(0x2020202020202020L, 0x2020202020202020L, 0x2020202020202020L), 48);
        Check.due("2: none", x.feed(0, 0, 0), 48);
        Check.due("2: one", x.feed(0, 0, 'x'), 49);
        Check.due("2: all that are there", x.count(6), 49);
        Check.due("2: the first is a word of eight, the fifth one too many", x.ask(), Check.fault(5, 15));
        x.feed(0x6162636465666768L, 0x20696a6b6c6d6e6fL, 0x7020717273747576L);
        Check.due("2: behind the tape", x.feed(0x7778000000000000L, 0, 0), 26);
        Check.due("2: read", x.ask(), 0);
        for (int term = 0; term < 3; term++) Check.due("2: in order", x.holds(0, term), 0);
        for (int i = 1; i <= 41; i++) Check.due("2: feed " + i, x.feed(-1L >>> 1 & 0x2020202020202020L, 0x2020202020202020L, 0x2020202020202020L), 24 * i);
        Check.due("2: 16 of 24 fit", x.feed(0x2020202020202020L, 0x2020202020202020L, 0x2020202020202020L), 1000);
        Check.due("2: none fits", x.feed(0x2020202020202020L, 0x2020202020202020L, 0x2020202020202020L), 1000);
    }

    /** "The TAPE is read as TABLES: 0, or its FAULT (all stays then)." */
    private static void promise3() {
        WordsAndRows x = asked("marta bill");
        Check.due("3: a fault", Feeder.tables(x, "table person name txt ;"), Check.fault(2, 18));
        Check.due("3: the tables stay", x.count(0), 2);
        Check.due("3: the rows stay", x.count(1), 5);
        Check.due("3: the ask stays", x.count(3), 2);
        Check.due("3: the joining stays", x.count(4), 1);
        Check.due("3: tables of blanks alone", Feeder.tables(x, " \n "), 0);
        Check.due("3: are no tables", x.count(0), 0);
        Check.due("3: and no rows", x.count(1), 0);
        Check.due("3: and no ask", x.count(3), 0);
    }

    /** "The TAPE is read as ROWS: 0, or its FAULT (none is told then)." */
    private static void promise4() {
        WordsAndRows x = asked("marta bill");
        Check.due("4: a fault in the second row", Feeder.rows(x, "bill 0 1 1 ; bill 2 1 1 ;"), Check.fault(4, 18));
        Check.due("4: none is told", x.count(1), 5);
        Check.due("4: nor joined", x.count(4), 1);
        Check.due("4: rows of blanks alone", Feeder.rows(x, " \n "), 0);
        Check.due("4: are none", x.count(1), 5);
        Check.due("4: the first of them without a fault", Feeder.rows(x, "bill 0 1 1 ;"), 0);
        Check.due("4: is told", x.count(1), 6);
        Check.due("4: and joined", x.count(4), 2);
    }

    /** "The TAPE is read as an ASK: 0, or its FAULT (the one ahead stays then)." */
    private static void promise5() {
        WordsAndRows x = house();
        Check.due("5: a fault, none ahead", Feeder.ask(x, "marta ;"), Check.fault(1, 6));
        Check.due("5: no ask", x.count(3), 0);
        Check.due("5: an ask", Feeder.ask(x, "marta bill"), 0);
        for (String text : new String[] {"", "anton ulm of", "anton near", "anton over anton", "a b c d e"}) {
            Check.due("5: a fault: " + text, Feeder.ask(x, text) != 0, true);
            Check.due("5: two terms", x.count(3), 2);
            Check.due("5: marta", x.holds(0, 0), 0);
            Check.due("5: not anton", x.holds(1, 0), -1);
            Check.due("5: one joining", x.joining(0, 0), 5);
        }
        Check.due("5: another one", Feeder.ask(x, "anton"), 0);
        Check.due("5: is in its place", x.joining(0, 0), 2);
    }

    /** "The TAPE is read as a QUESTION: its number; its FAULT, + 100000; NONE: there is none such, or no ASK." */
    private static void promise6() {
        WordsAndRows x = house();
        Check.due("6: no ask", Feeder.question(x, "person : marta of person"), -1);
        Check.due("6: no ask, but a fault", Feeder.question(x, "person : marta"), 100000 + Check.fault(1, 14));
        Feeder.ask(x, "marta");
        Check.due("6: its number", Feeder.question(x, "person : marta of person"), 0);
        Check.due("6: none such", Feeder.question(x, "person : anton of person"), -1);
        Check.due("6: none such shape", Feeder.question(x, "bill : marta of bill"), -1);
        Check.due("6: a fault", Feeder.question(x, "town : marta of person"), 100000 + Check.fault(2, 0));
        Check.due("6: an empty tape", x.question(), 100000 + Check.fault(1, 0));
        Check.due("6: the ask stays", x.count(3), 1);
        Check.due("6: no question reads the ask anew", x.joining(0, 0), 1);
    }

    /** "WIDTH: true; false: another number." */
    private static void promise7() {
        WordsAndRows x = asked("marta anton");
        Feeder.rows(x, "bill 0 1 1 ;");
        for (int n = 1; n <= 5; n++) Check.due("7: " + n, x.width(n), true);
        x.width(2);
        Feeder.ask(x, "marta bill");
        int joinings = x.count(4);
        for (int n : FAR) Check.due("7: " + n, x.width(n), false);
        for (int n : new int[] {0, 6, 7}) Check.due("7: " + n, x.width(n), false);
        Check.due("7: as wide as before", x.count(4), joinings);
        Check.due("7: sets of two rows at most", x.looks(1000000, 2), 6 + 3);
    }

    /** "NoSuchElementException: none told, others." */
    private static void promise8() {
        for (int what = -1; what <= 3; what++) Check.noSuchRow(new WordsAndRows(), 0, what);
        WordsAndRows x = Feeder.house(TABLES, "");
        Check.noSuchRow(x, 0, 0);
        Feeder.rows(x, ROWS);
        for (int what = 0; what < 3; what++) {
            for (int row : FAR) Check.noSuchRow(x, row, what);
            Check.noSuchRow(x, 5, what);
            Check.noSuchRow(x, 6, what);
        }
        for (int row = 0; row < 5; row++) {
            for (int what : FAR) Check.noSuchRow(x, row, what);
            Check.noSuchRow(x, row, 3);
        }
        x.hide(0, 4, true);
        Check.due("8: the table of a row not seen", x.row(4, 0), 1);
        Check.due("8: its number there", x.row(4, 1), 2);
        Check.due("8: not seen", x.row(4, 2), 0);
        Check.due("8: seen", x.row(3, 2), 1);
        WordsAndRows y = full();
        Check.due("8: the last of 30", y.row(29, 0) * 10 + y.row(29, 1), 45);
        Check.due("8: seen", y.row(29, 2), 1);
        Check.noSuchRow(y, 30, 0);
    }

    /** "NONE: none such, the ROW is not SEEN." */
    private static void promise9() {
        WordsAndRows x = house();
        Check.due("9: a word", x.cell(0, 0), Feeder.code("marta"));
        Check.due("9: a number", x.cell(2, 1), 610);
        Check.due("9: the number 0 is one", x.cell(3, 1), 0);
        Check.due("9: a key to the row 0", x.cell(2, 0), 0);
        Check.due("9: a key to the row 1", x.cell(3, 0), 1);
        Check.due("9: none", x.cell(4, 0), -1);
        for (int row = 0; row < 2; row++) {
            for (int column : FAR) Check.due("9: no column " + column, x.cell(row, column), -1);
            Check.due("9: no third column", x.cell(row, 2), -1);
            Check.due("9: no fourth column", x.cell(row, 3), -1);
        }
        Check.due("9: no fourth column of bills", x.cell(2, 3), -1);
        Check.due("9: no fifth column of bills", x.cell(2, 4), -1);
        for (int row : FAR) Check.due("9: no row " + row, x.cell(row, 0), -1);
        Check.due("9: no row 5", x.cell(5, 0), -1);
        x.hide(0, 0, true);
        Check.due("9: not seen", x.cell(0, 0), -1);
        Check.due("9: a key to it", x.cell(2, 0), -1);
        Check.due("9: the number beside it", x.cell(2, 1), 610);
        Check.due("9: nothing told", new WordsAndRows().cell(0, 0), -1);
        String[] words = {"a", "z", "aa", "az", "zz", "aaaaaaaa", "zzzzzzzz", "abcdefgh"};
        long[] codes = {1, 26, 28, 53, 728, 10862674480L, 282429536480L, Feeder.code("abcdefgh")};
        for (int i = 0; i < words.length; i++) {
            WordsAndRows y = Feeder.house("table t k text ;", "t " + words[i] + " ;");
            Check.due("9: in base 27: " + words[i], y.cell(0, 0), codes[i]);
        }
    }

    /** "NONE: it does not, is not SEEN, none such." */
    private static void promise10() {
        WordsAndRows x = house();
        Check.due("10: no ask", x.holds(0, 0), -1);
        Feeder.ask(x, "marta bill");
        Check.due("10: at 0", x.holds(0, 0), 0);
        Check.due("10: it does not", x.holds(1, 0), -1);
        Check.due("10: by its table's name", x.holds(2, 1), 3);
        for (int row : FAR) Check.due("10: no row " + row, x.holds(row, 1), -1);
        Check.due("10: no row 5", x.holds(5, 1), -1);
        for (int row = 0; row < 5; row++) {
            for (int term : FAR) Check.due("10: no term " + term, x.holds(row, term), -1);
            for (int term = 2; term < 6; term++) Check.due("10: no term " + term, x.holds(row, term), -1);
        }
        x.hide(0, 0, true);
        Check.due("10: not seen", x.holds(0, 0), -1);
        Check.due("10: others are", x.holds(2, 1), 3);
        Feeder.ask(x, "bill");
        Check.due("10: no second term any more", x.holds(2, 1), -1);
    }

    /** "How many SEEN ROWS HOLD a TERM; NONE: none such." */
    private static void promise11() {
        WordsAndRows x = house();
        Check.due("11: no ask", x.found(0), -1);
        Feeder.ask(x, "zz bill person near marte");
        int[] due = {0, 3, 2, 1};
        for (int term = 0; term < 4; term++) Check.due("11: term " + term, x.found(term), due[term]);
        for (int term : FAR) Check.due("11: no term " + term, x.found(term), -1);
        Check.due("11: no fifth term", x.found(4), -1);
        x.hide(0, 0, true);
        x.hide(0, 4, true);
        int[] seen = {0, 2, 1, 0};
        for (int term = 0; term < 4; term++) Check.due("11: of those seen, term " + term, x.found(term), seen[term]);
        WordsAndRows y = full();
        Feeder.ask(y, "k l");
        Check.due("11: all of 30", y.found(0), 30);
        Check.due("11: and again", y.found(1), 30);
    }

    /** "The least PRICE of a TIE of two ROWS; NONE: none such, none." */
    private static void promise12() {
        WordsAndRows x = house();
        Check.due("12: a tie", x.tie(2, 0), 1);
        Check.due("12: the other way", x.tie(0, 2), 1);
        Check.due("12: none", x.tie(2, 1), -1);
        Check.due("12: a key that is none", x.tie(4, 0), -1);
        for (int row = 0; row < 5; row++) {
            Check.due("12: a row and itself", x.tie(row, row), -1);
            for (int other : FAR) {
                Check.due("12: no row " + other, x.tie(row, other), -1);
                Check.due("12: no first row " + other, x.tie(other, row), -1);
            }
            Check.due("12: no row 5", x.tie(row, 5), -1);
        }
        for (int row : FAR) Check.due("12: neither row", x.tie(row, row), -1);
        x.hide(0, 2, true);
        Check.due("12: the one that points is not seen", x.tie(2, 0), -1);
        x.hide(0, 2, false);
        x.hide(0, 0, true);
        Check.due("12: the one pointed at is not seen", x.tie(2, 0), -1);
        Check.due("12: nothing told", new WordsAndRows().tie(0, 1), -1);
        WordsAndRows y = full();
        Check.due("12: the first and the last", y.tie(0, 29), 3);
        Check.due("12: no 31st", y.tie(0, 30), -1);
    }

    /** "NONE: none such, no ASK." */
    private static void promise13() {
        WordsAndRows x = house();
        for (int what = -1; what <= 4; what++) Check.due("13: no ask", x.joining(0, what), -1);
        Feeder.ask(x, "marta bill");
        int[] due = {5, 4, 0, 1};
        for (int what = 0; what < 4; what++) {
            Check.due("13: what " + what, x.joining(0, what), due[what]);
            for (int k : FAR) Check.due("13: no joining " + k, x.joining(k, what), -1);
            Check.due("13: no second joining", x.joining(1, what), -1);
        }
        for (int what : FAR) Check.due("13: no what " + what, x.joining(0, what), -1);
        Check.due("13: no what 4", x.joining(0, 4), -1);
        Feeder.ask(x, "marta zz");
        for (int what = 0; what < 4; what++) Check.due("13: no joining", x.joining(0, what), -1);
        Feeder.tables(x, TABLES);
        for (int what = 0; what < 4; what++) Check.due("13: no ask any more", x.joining(0, what), -1);
        WordsAndRows y = full();
        int last = y.count(4) - 1;
        for (int what = 0; what < 4; what++) {
            Check.due("13: the last", y.joining(last, what) != -1, true);
            Check.due("13: behind the last", y.joining(last + 1, what), -1);
        }
    }

    /** "The ROW of the k-th JOINING that HOLDS a TERM at the least PRICE (of equal ones the first); NONE: none such." */
    private static void promise14() {
        WordsAndRows x = house();
        Check.due("14: no ask", x.place(0, 0), -1);
        Feeder.ask(x, "marta bill");
        Check.due("14: marta", x.place(0, 0), 0);
        Check.due("14: bill", x.place(0, 1), 2);
        for (int n : FAR) {
            Check.due("14: no joining " + n, x.place(n, 0), -1);
            Check.due("14: no term " + n, x.place(0, n), -1);
            Check.due("14: neither " + n, x.place(n, n), -1);
        }
        Check.due("14: no second joining", x.place(1, 0), -1);
        Check.due("14: no third term", x.place(0, 2), -1);
        WordsAndRows y = Feeder.house("table a k text , l text , up a ;", "a us m none ; a u n 0 ; a u o 1 ; a us n none ; a us m 3 ;");
        Feeder.ask(y, "m n u");
        Check.due("14: a set with two that hold u", y.joining(0, 0), 3);
        Check.due("14: the later one at less", y.place(0, 2), 1);
        Check.due("14: a set with two that hold it at the same", y.joining(1, 0), 24);
        Check.due("14: the first", y.place(1, 2), 3);
        Check.due("14: the first of both by its name", y.place(1, 0), 4);
    }

    /** "LOOKS (n 0 to 1000000) ..; NONE: no ASK, another n, what." */
    private static void promise15() {
        WordsAndRows x = house();
        for (int what = -1; what <= 3; what++) Check.due("15: no ask", x.looks(0, what), -1);
        Feeder.ask(x, "marta bill");
        int[] first = {-1, 3, 0};
        int[] all = {4, -1, 7};
        for (int what = 0; what < 3; what++) {
            Check.due("15: n 0, what " + what, x.looks(0, what), first[what]);
            Check.due("15: n 1000000, what " + what, x.looks(1000000, what), all[what]);
            Check.due("15: n 999999, what " + what, x.looks(999999, what), all[what]);
            Check.due("15: n 1000001, what " + what, x.looks(1000001, what), -1);
            for (int n : new int[] {LEAST, -1000000, -1, GREATEST}) Check.due("15: no n " + n, x.looks(n, what), -1);
        }
        for (int what : FAR) Check.due("15: no what " + what, x.looks(3, what), -1);
        Check.due("15: no what 3", x.looks(3, 3), -1);
        Check.due("15: no joining yet", x.looks(5, 0), -1);
        Check.due("15: the least price of one", x.looks(6, 0), 4);
        Check.due("15: the last set is the next", x.looks(6, 1), 4);
        Check.due("15: all were looked at", x.looks(7, 1), -1);
        Feeder.ask(x, "zz");
        Check.due("15: no joining at all", x.looks(1000000, 0), -1);
        Check.due("15: a term nowhere", x.looks(0, 1), -1);
        Check.due("15: all the same as many sets", x.looks(1000000, 2), 7);
        WordsAndRows y = full();
        y.width(5);
        Check.due("15: the most sets", y.looks(1000000, 2), 174156);
        Check.due("15: a bound ahead of the last", y.looks(174155, 1), 4 * 3);
        Check.due("15: none behind it", y.looks(174156, 1), -1);
    }

    /** "NONE: none such, no ASK." */
    private static void promise16() {
        WordsAndRows x = house();
        for (int what = -1; what <= 5; what++) Check.due("16: no ask", x.asked(0, what), -1);
        Feeder.ask(x, "marta bill");
        int[] due = {1, 0, 0, 0, "person , bill : marta of person , bill of bill".length()};
        for (int what = 0; what < 5; what++) {
            Check.due("16: what " + what, x.asked(0, what), due[what]);
            for (int q : FAR) Check.due("16: no question " + q + ", what " + what, x.asked(q, what), -1);
            Check.due("16: no second question, what " + what, x.asked(1, what), -1);
        }
        for (int what : FAR) Check.due("16: no what " + what, x.asked(0, what), -1);
        Check.due("16: no what 5", x.asked(0, 5), -1);
        x.choose(0);
        Check.due("16: no second question's choice", x.asked(1, 2), -1);
        Feeder.ask(x, "zz");
        for (int what = 0; what < 5; what++) Check.due("16: no question at all", x.asked(0, what), -1);
    }

    /** "A sign of a SENTENCE; NONE: none such." */
    private static void promise17() {
        WordsAndRows x = house();
        Check.due("17: no ask", x.said(0, 0), -1);
        Feeder.ask(x, "marta bill");
        String sentence = "person , bill : marta of person , bill of bill";
        for (int k = 0; k < sentence.length(); k++) Check.due("17: sign " + k, x.said(0, k), sentence.charAt(k));
        Check.due("17: behind the last", x.said(0, sentence.length()), -1);
        for (int n : FAR) {
            Check.due("17: no question " + n, x.said(n, 0), -1);
            if (n < 0 || n >= sentence.length()) Check.due("17: no sign " + n, x.said(0, n), -1);
        }
        Check.due("17: no second question", x.said(1, 0), -1);
        Feeder.ask(x, "zz");
        Check.due("17: no question at all", x.said(0, 0), -1);
    }

    /** "A QUESTION is chosen: CHOSEN then; NONE: none such, no ASK." */
    private static void promise18() {
        WordsAndRows x = house();
        Check.due("18: no ask", x.choose(0), -1);
        Feeder.ask(x, "marta bill");
        for (int q : FAR) Check.due("18: no question " + q, x.choose(q), -1);
        Check.due("18: no second question", x.choose(1), -1);
        Check.due("18: none was chosen by that", x.asked(0, 2), 0);
        for (int i = 1; i <= 50; i++) Check.due("18: chosen then", x.choose(0), i);
        Feeder.ask(x, "zz");
        Check.due("18: no question at all", x.choose(0), -1);
        Feeder.ask(x, "anton bill");
        Check.due("18: the same tables", x.choose(0), 51);
    }

    /** "NONE: none, no ASK, another what." */
    private static void promise19() {
        WordsAndRows x = house();
        for (int what = -1; what <= 2; what++) Check.due("19: no ask", x.parts(what), -1);
        Feeder.ask(x, "person");
        Check.due("19: the word", x.parts(0), Feeder.code("anton"));
        Check.due("19: the greater number", x.parts(1), 1);
        for (int what : FAR) Check.due("19: no what " + what, x.parts(what), -1);
        Check.due("19: no what 2", x.parts(2), -1);
        Feeder.ask(x, "bill");
        Check.due("19: no words in their rows", x.parts(0), -1);
        Check.due("19: so no number", x.parts(1), -1);
        Feeder.ask(x, "zz");
        Check.due("19: no joining", x.parts(0), -1);
        Check.due("19: no number", x.parts(1), -1);
        WordsAndRows y = Feeder.house("table t k text ;", "t m ; t n ; t n ; t n ;");
        Feeder.ask(y, "t");
        Check.due("19: a word of the row 0 alone", y.parts(0), Feeder.code("m"));
        Check.due("19: is in one of four", y.parts(1), 3);
        WordsAndRows z = Feeder.house("table t k text , l text ;", "t m n ; t p n ; t q n ;");
        Feeder.ask(z, "n");
        z.hide(0, 1, true);
        Check.due("19: of two, the word of the row 0", z.parts(0), Feeder.code("m"));
    }

    /** "LEFT OUT as bits of TERMS; NONE: there is a JOINING, none helps, no ASK." */
    private static void promise20() {
        WordsAndRows x = house();
        Check.due("20: no ask", x.left(), -1);
        String[] asks = {"marta", "marta bill", "zz", "zz yy xx ww", "marta anton", "zz bill", "bill zz", "marta zz anton bill", "zz yy marta bill"};
        int[] due = {-1, -1, -1, -1, 1, 1, 2, 3, 3};
        for (int i = 0; i < asks.length; i++) {
            Feeder.ask(x, asks[i]);
            Check.due("20: " + asks[i], x.left(), due[i]);
        }
        for (int row = 0; row < 5; row++) x.hide(0, row, true);
        Check.due("20: nothing is seen", x.left(), -1);
        Feeder.tables(x, TABLES);
        Check.due("20: no ask any more", x.left(), -1);
    }

    /** "The i-th text WORD (in the order of letters, each once, of SEEN ROWS) that becomes a WORD TERM by one letter put in, left out or changed; NONE: none such." */
    private static void promise21() {
        WordsAndRows x = Feeder.house("table t k text , l text , n number ;", "t a b 1 ; t bb ab 2 ; t b ba 3 ; t c abc 4 ;");
        Check.due("21: no ask", x.near(0, 0), -1);
        Feeder.ask(x, "b near b over 1 zzz");
        String[] due = {"a", "ab", "ba", "bb", "c"};
        for (int i = 0; i < due.length; i++) Check.due("21: word " + i, x.near(0, i), Feeder.code(due[i]));
        Check.due("21: no more, not itself", x.near(0, due.length), -1);
        for (int n : FAR) {
            Check.due("21: no word " + n, x.near(0, n), -1);
            Check.due("21: no term " + n, x.near(n, 0), -1);
        }
        Check.due("21: a near term is no word term", x.near(1, 0), -1);
        Check.due("21: nor is a number", x.near(2, 0), -1);
        Check.due("21: nothing becomes it", x.near(3, 0), -1);
        Check.due("21: no fifth term", x.near(4, 0), -1);
        x.hide(0, 0, true);
        Check.due("21: of seen rows", x.near(0, 0), Feeder.code("ab"));
        x.hide(0, 3, true);
        Check.due("21: the last of seen rows", x.near(0, 2), Feeder.code("bb"));
        Check.due("21: no more", x.near(0, 3), -1);
        Feeder.ask(x, "t k");
        Check.due("21: names are no cells", x.near(1, 0), Feeder.code("b"));
    }

    /** All 120 cells of 30 rows become one word. */
    private static void promise21Full() {
        WordsAndRows x = Feeder.house("table t a text , b text , c text , d text ;", "");
        String[] words = new String[120];
        int many = 0;
        for (char c = 'a'; c <= 'z' && many < 120; c++) {
            for (String w : new String[] {c + "m", "m" + c, c + "mm", "m" + c + "m", "mm" + c}) {
                if (c != 'm' && many < 120) words[many++] = w;
            }
        }
        StringBuilder rows = new StringBuilder();
        for (int i = 119; i >= 0; i--) {
            if (i % 4 == 3) rows.append('t');
            rows.append(' ').append(words[i]);
            if (i % 4 == 0) rows.append(';');
        }
        Check.due("21: 30 rows", Feeder.rows(x, rows.toString()), 0);
        Feeder.ask(x, "mm");
        java.util.Arrays.sort(words);
        for (int i = 0; i < 120; i++) Check.due("21: of 120 the word " + i, x.near(0, i), Feeder.code(words[i]));
        Check.due("21: no 121st", x.near(0, 120), -1);
    }

    /** "The ASK meant a set of ROWS (as bits): its number; NONE: no ASK, 40 are there, no set (of ROWS that are told)." */
    private static void promise22() {
        WordsAndRows x = house();
        Check.due("22: no ask", x.meant(1), -1);
        Feeder.ask(x, "marta bill");
        for (int set : new int[] {0, 32, 33, 64, 1 << 29, 1 << 30, LEAST, -1, -32, GREATEST, 31 | LEAST}) Check.due("22: no set " + set, x.meant(set), -1);
        Check.due("22: none was meant by that", x.judged(0), 0);
        Check.due("22: the first", x.meant(5), 0);
        Check.due("22: all rows", x.meant(31), 1);
        Check.due("22: the last row", x.meant(16), 2);
        x.hide(0, 4, true);
        Check.due("22: a row not seen is told", x.meant(16), 3);
        for (int i = 4; i < 40; i++) Check.due("22: number " + i, x.meant(1), i);
        Check.due("22: 40 are there", x.meant(5), -1);
        Check.due("22: 40 are kept", x.judged(0), 40);
        WordsAndRows y = full();
        Check.due("22: all of 30 rows", y.meant((1 << 30) - 1), 0);
        Check.due("22: the 30th", y.meant(1 << 29), 1);
        Check.due("22: no 31st", y.meant(1 << 30), -1);
        Check.due("22: no 32nd", y.meant(LEAST), -1);
    }

    /** "MEANT, what 0: how many, 1: among the first three, 2: at all (each as it was found when it was meant). NONE for another what." */
    private static void promise23() {
        WordsAndRows x = house();
        for (int what = 0; what < 3; what++) Check.due("23: nothing yet", x.judged(what), 0);
        for (int what : FAR) Check.due("23: no what " + what, x.judged(what), -1);
        Check.due("23: no what 3", x.judged(3), -1);
        Feeder.ask(x, "bill");
        x.meant(4);
        x.meant(16);
        x.meant(1);
        judged(x, 3, 2, 2);
        Feeder.ask(x, "zz");
        judged(x, 3, 2, 2);
        x.hide(0, 2, true);
        Feeder.rows(x, "bill 0 1 1 ; bill 0 1 1 ;");
        judged(x, 3, 2, 2);
        Feeder.ask(x, "bill");
        Check.due("23: the fourth is not seen as the fourth", x.meant(64), 3);
        judged(x, 4, 2, 3);
        x.hide(0, 2, false);
        x.hide(0, 3, true);
        x.hide(0, 4, true);
        judged(x, 4, 2, 3);
        Check.due("23: now it is the third", x.meant(64), 4);
        judged(x, 5, 3, 4);
    }

    private static void judged(WordsAndRows x, int many, int first, int all) {
        Check.due("23: how many", x.judged(0), many);
        Check.due("23: among the first three", x.judged(1), first);
        Check.due("23: at all", x.judged(2), all);
    }

    /** "The PERSON who asks (0 to 3): true; false: another one." */
    private static void promise24() {
        WordsAndRows x = house();
        for (int p = 0; p < 4; p++) for (int row = 0; row <= p; row++) x.hide(p, row, true);
        Check.due("24: 0 at first", x.count(2), 4);
        for (int p = 3; p >= 0; p--) {
            Check.due("24: person " + p, x.person(p), true);
            Check.due("24: sees its own", x.count(2), 4 - p);
            for (int other : FAR) Check.due("24: no person " + other, x.person(other), false);
            Check.due("24: no person 4", x.person(4), false);
            Check.due("24: the one ahead asks still", x.count(2), 4 - p);
        }
        Check.due("24: a person before anything is told", new WordsAndRows().person(3), true);
        Check.due("24: none before anything is told", new WordsAndRows().person(4), false);
    }

    /** "A ROW is hidden from a PERSON or not: true; false: none such." */
    private static void promise25() {
        WordsAndRows x = house();
        for (int other : FAR) {
            for (int p = 0; p < 4; p++) Check.due("25: no row " + other, x.hide(p, other, true), false);
            for (int row = 0; row < 5; row++) Check.due("25: no person " + other, x.hide(other, row, true), false);
            Check.due("25: neither", x.hide(other, other, true), false);
            Check.due("25: nor shown", x.hide(0, other, false), false);
        }
        Check.due("25: no row 5", x.hide(0, 5, true), false);
        Check.due("25: no person 4", x.hide(4, 0, true), false);
        for (int p = 0; p < 4; p++) {
            x.person(p);
            Check.due("25: none is hidden by that", x.count(2), 5);
        }
        Feeder.rows(x, "bill 0 1 1 ;");
        Check.due("25: a row told later is not hidden", x.row(5, 2), 1);
        for (int p = 0; p < 4; p++) {
            Check.due("25: the last row", x.hide(p, 5, true), true);
            x.person(p);
            Check.due("25: is hidden", x.row(5, 2), 0);
            Check.due("25: hidden once more", x.hide(p, 5, true), true);
            Check.due("25: is hidden still", x.row(5, 2), 0);
            Check.due("25: shown", x.hide(p, 5, false), true);
            Check.due("25: is seen", x.row(5, 2), 1);
            Check.due("25: shown once more", x.hide(p, 5, false), true);
            Check.due("25: is seen still", x.row(5, 2), 1);
        }
        Check.due("25: nothing told", new WordsAndRows().hide(0, 0, true), false);
        WordsAndRows y = full();
        Check.due("25: the last of 30", y.hide(0, 29, true), true);
        Check.due("25: is hidden", y.count(2), 29);
        Check.due("25: no 31st", y.hide(0, 30, true), false);
    }

    /** "The i-th OFFERED, as TABLE * 4 + COLUMN, times 20, and the other TABLE * 4 + COLUMN; NONE: none such." */
    private static void promise26() {
        Check.due("26: nothing told", new WordsAndRows().offered(0), -1);
        WordsAndRows x = house();
        Check.due("26: none", x.offered(0), -1);
        StringBuilder tables = new StringBuilder();
        StringBuilder rows = new StringBuilder();
        for (String name : new String[] {"a", "b", "c", "d", "e"}) {
            tables.append("table ").append(name).append(" k text,l text,m text,n text;");
            rows.append(name).append(" x x x x;");
        }
        WordsAndRows y = Feeder.house(tables.toString(), rows.toString());
        Check.due("26: the most there can be", y.count(7), 320);
        Check.due("26: the first: a's k to b's k", y.offered(0), 4);
        Check.due("26: the second: to b's l", y.offered(1), 5);
        Check.due("26: the 17th: a's l to b's k", y.offered(16), 24);
        Check.due("26: the last: e's n to d's n", y.offered(319), 19 * 20 + 15);
        Check.due("26: no more", y.offered(320), -1);
        for (int i : new int[] {LEAST, -2, -1, 321, 400, 1000000, GREATEST}) Check.due("26: no " + i, y.offered(i), -1);
        y.hide(0, 4, true);
        Check.due("26: without e's row", y.offered(191), 15 * 20 + 11);
        Check.due("26: no more of those seen", y.offered(192), -1);
    }

    /** "The i-th OFFERED is LET (20 at most): true; false: none such, it is LET." */
    private static void promise27() {
        Check.due("27: nothing told", new WordsAndRows().lets(0), false);
        WordsAndRows x = Feeder.house("table a k text ; table b k text ;", "a x ; b x ;");
        for (int i : FAR) Check.due("27: no " + i, x.lets(i), false);
        Check.due("27: no third", x.lets(2), false);
        Check.due("27: none is let by that", x.count(8), 0);
        Check.due("27: no tie by that", x.tie(0, 1), -1);
        Check.due("27: the second", x.lets(1), true);
        Check.due("27: it is let", x.lets(1), false);
        Check.due("27: one", x.count(8), 1);
        Check.due("27: the first, the other way", x.lets(0), true);
        Check.due("27: it is let", x.lets(0), false);
        Check.due("27: two", x.count(8), 2);
        Check.due("27: one pair", x.count(9), 1);
        Check.due("27: those let are offered", x.count(7), 2);
        x.person(2);
        Check.due("27: let for another person, too", x.lets(0), false);
        x.hide(2, 0, true);
        Check.due("27: none such for one who does not see it", x.lets(0), false);
    }

    /** "What 0: TABLES, .. 9: TIES (pairs of SEEN ROWS). NONE for another what." */
    private static void promise28() {
        WordsAndRows x = new WordsAndRows();
        for (int what = 0; what < 10; what++) Check.due("28: a new object: count(" + what + ")", x.count(what), 0);
        for (int what : FAR) Check.due("28: no what " + what, x.count(what), -1);
        Check.due("28: no what 10", x.count(10), -1);
        WordsAndRows y = full();
        Feeder.feed(y, "abc");
        // p and q of different tables, or of one with a row of another between that has neither
        int[] due = {5, 30, 30, 2, 5 * 4 + 5 * 16, 5 * 4 + 5 * 4, 3, 20, 20, 360};
        for (int what = 0; what < 10; what++) Check.due("28: count(" + what + ")", y.count(what), due[what]);
        y.hide(0, 29, true);
        Check.due("28: rows told", y.count(1), 30);
        Check.due("28: rows seen", y.count(2), 29);
        Check.due("28: pairs of seen rows", y.count(9), 360 - 24);
        Check.due("28: abc are no rows", y.rows(), Check.fault(2, 0));
        Feeder.tables(y, TABLES);
        Check.due("28: no ask", y.count(3), 0);
        Check.due("28: no joinings without one", y.count(4), 0);
        Check.due("28: no questions without one", y.count(5), 0);
    }

    /** "A call of the face throws exactly what and where the document says, and nothing else ever reaches its caller" (LANGUAGE.md, 6). */
    private static void nothingElseIsThrown() {
        WordsAndRows[] states = {new WordsAndRows(), Feeder.house(TABLES, ""), house(), asked("marta bill"), asked("zz"), full(), new WordsAndRows()};
        Feeder.ask(states[6], "marta near bill over 5 under 7");
        int calls = 0;
        for (WordsAndRows x : states) {
            for (int a : FAR) for (int b : new int[] {LEAST, -1, 0, 1, 2, 4, 5, 64, GREATEST}) calls += all(x, a, b) + all(x, b, a);
        }
        Check.due("every call came back", calls, states.length * FAR.length * 9 * 2);
    }

    private static int all(WordsAndRows x, int a, int b) {
        try {
            x.row(a, b);
        } catch (NoSuchElementException e) {
            Check.due("row(" + a + ", " + b + ") is none told, or another what", a >= 0 && a < x.count(1) && b >= 0 && b < 3, false);
        }
        x.cell(a, b);
        x.holds(a, b);
        x.found(a);
        x.tie(a, b);
        x.joining(a, b);
        x.place(a, b);
        x.looks(a, b);
        x.asked(a, b);
        x.said(a, b);
        x.choose(a);
        x.parts(a);
        x.left();
        x.near(a, b);
        x.meant(a);
        x.judged(a);
        x.offered(a);
        x.count(a);
        x.feed(a, b, a);
        return 1;
    }
}
