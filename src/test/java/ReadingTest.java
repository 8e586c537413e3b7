/** Promises 1 to 7: a new object, feed, tables, rows, ask, question, width. */
public final class ReadingTest {
    private static final String TWO = "table a k text ; table b k text , to a , up b , n number ;";

    private static final String[] RESERVED = {"table", "text", "number", "none", "near", "over", "under", "of"};

    public static void main(String[] args) {
        newObject();
        feed();
        tables();
        tablesInPlaceOfAll();
        rows();
        rowsTogether();
        ask();
        question();
        width();
        tokens();
        Check.end();
    }

    private static void newObject() {
        WordsAndRows x = new WordsAndRows();
        for (int what = 0; what <= 9; what++) Check.due("new: count(" + what + ")", x.count(what), 0);
        Check.due("new: judged(0)", x.judged(0), 0);
        Check.due("new: cell(0, 0)", x.cell(0, 0), -1);
        Check.due("new: holds(0, 0)", x.holds(0, 0), -1);
        Check.due("new: found(0)", x.found(0), -1);
        Check.due("new: tie(0, 1)", x.tie(0, 1), -1);
        Check.due("new: joining(0, 0)", x.joining(0, 0), -1);
        Check.due("new: place(0, 0)", x.place(0, 0), -1);
        Check.due("new: looks(0, 2)", x.looks(0, 2), -1);
        Check.due("new: asked(0, 0)", x.asked(0, 0), -1);
        Check.due("new: said(0, 0)", x.said(0, 0), -1);
        Check.due("new: choose(0)", x.choose(0), -1);
        Check.due("new: parts(0)", x.parts(0), -1);
        Check.due("new: left()", x.left(), -1);
        Check.due("new: near(0, 0)", x.near(0, 0), -1);
        Check.due("new: meant(1)", x.meant(1), -1);
        Check.due("new: hide(0, 0, true)", x.hide(0, 0, true), false);
        Check.due("new: offered(0)", x.offered(0), -1);
        Check.due("new: lets(0)", x.lets(0), false);
        Check.noSuchRow(x, 0, 0);
        Check.due("another object has its own tape", Feeder.feed(new WordsAndRows(), "abc") + x.count(6), 3);
    }

    private static void feed() {
        for (int sign = 0; sign < 256; sign++) {
            WordsAndRows x = new WordsAndRows();
            int due = sign == 10 || sign >= 32 && sign <= 126 ? 1 : 0;
            Check.due("feed of the sign " + sign, x.feed((long) sign << 56, 0, 0), due);
            Check.due("feed of the sign " + sign + " at the end", x.feed(0, 0, sign), 2 * due);
        }
        WordsAndRows x = Feeder.house("table a k text ;", "a xy ;");
        // a left out sign between two leaves no gap: x and y make one word
        Check.due("feed around a sign left out", x.feed(0x7800000000000000L, 0x00ff1f8000000000L, 0x79), 2);
        Check.due("ask of what was fed", x.ask(), 0);
        Check.due("it is one term", x.count(3), 1);
        Check.due("it is the word xy", x.holds(0, 0), 0);
        for (int i = 1; i <= 41; i++) Check.due("feed " + i, x.feed(0x2020202020202020L, 0x2020202020202020L, 0x2020202020202020L), 24 * i);
        Check.due("feed to the brim", x.feed(0x2020202020202020L, 0x2020202020202020L, 0x7878787878787878L), 1000);
        Check.due("feed beyond it", x.feed(0x2020202020202020L, 0, 0), 1000);
        Check.due("ask of blanks alone", x.ask(), Check.fault(1, 1000));
        Check.due("the tape is empty then", x.count(6), 0);
        Feeder.feed(x, " ".repeat(998) + "x y z");
        Check.due("998 blanks, x and a blank are all there is", x.count(6), 1000);
        Check.due("ask of them", x.ask(), 0);
        Check.due("one term", x.count(3), 1);
    }

    private static void wrongTables(String text, int kind, int place) {
        WordsAndRows x = Feeder.house(TWO, "a x ;");
        Check.due("tables: " + text, Feeder.tables(x, text), Check.fault(kind, place));
        Check.due("all stays: tables", x.count(0), 2);
        Check.due("all stays: rows", x.count(1), 1);
        Check.due("the tape is taken", x.count(6), 0);
    }

    private static void tables() {
        for (String word : RESERVED) {
            wrongTables("table " + word + " k text ;", 1, 6);
            wrongTables("table a " + word + " text ;", 1, 8);
            wrongRows("a " + word + " ;", 1, 2);
            wrongRows(word + " x ;", 1, 0);
            wrongAsk("near " + word, 1, 5);
            wrongQuestion("a : near " + word + " of a", 1, 9);
            wrongQuestion("a : x of " + word, 1, 9);
        }
        wrongTables("tables a k text ;", 1, 0);
        wrongTables("; table a k text ;", 1, 0);
        wrongTables("table", 1, 5);
        wrongTables("table  ", 1, 7);
        wrongTables("table table k text ;", 1, 6);
        wrongTables("table 5 k text ;", 1, 6);
        wrongTables("table a ;", 1, 8);
        wrongTables("table a text text ;", 1, 8);
        wrongTables("table a k ;", 1, 10);
        wrongTables("table a k table ;", 1, 10);
        wrongTables("table a k none ;", 1, 10);
        wrongTables("table a k of ;", 1, 10);
        wrongTables("table a k text", 1, 14);
        wrongTables("table a k text :", 1, 15);
        wrongTables("table a k text , ;", 1, 17);
        wrongTables("table a k text ; ;", 1, 17);
        wrongTables("table a k text ; x", 1, 17);
        wrongTables("table a k text . ;", 1, 15);
        wrongTables("table a k Text ;", 1, 10);
        wrongTables("table abcdefghi k text ;", 1, 6);
        wrongTables("table a k b ;", 2, 10);
        wrongTables("table a k b ; table b k text ;", 2, 10);
        wrongTables("table a k text ; table a k text ;", 3, 23);
        wrongTables("table a k text , l text , k text ;", 3, 26);
        wrongTables("table a k text , l text , m text , n text , o text ;", 5, 44);
        // of the kinds that fit one token the least
        wrongTables("table a k text , l text , m text , n text , k text ;", 3, 44);
        wrongTables("table a k text , l text , m text , n text , of text ;", 1, 44);
        String five = "table a k text;table b k text;table c k text;table d k text;table e k text;";
        wrongTables(five + "table f k text;", 5, 75);
        wrongTables(five + "table", 5, 75);
        wrongTables(five + "tabl f k text;", 1, 75);
        WordsAndRows x = new WordsAndRows();
        Check.due("five tables", Feeder.tables(x, five), 0);
        Check.due("five are told", x.count(0), 5);
        Check.due("four columns, of itself and others", Feeder.tables(x, "table a k text;table b a text,b number,c a,d b;"), 0);
        Check.due("names of columns again in another table", Feeder.tables(x, "table abcdefgh a text;table b abcdefgh text,a text;"), 0);
        Check.due("no blanks where none are needed", Feeder.tables(x, "table a k text,l number;\ntable\nb\nk\na;"), 0);
        Check.due("two are told", x.count(0), 2);
        Check.due("an empty tape tells none", x.tables(), 0);
        Check.due("none are told", x.count(0), 0);
    }

    private static void tablesInPlaceOfAll() {
        WordsAndRows x = Feeder.house("table a k text ; table b k text ;", "a x ; b x ;");
        Check.due("ask", Feeder.ask(x, "x"), 0);
        Check.due("choose", x.choose(0), 1);
        Check.due("meant", x.meant(1), 0);
        Check.due("lets", x.lets(0), true);
        Check.due("hide", x.hide(2, 0, true), true);
        Check.due("width", x.width(1), true);
        Check.due("person", x.person(2), true);
        Check.due("tables", Feeder.tables(x, "table a k text ; table b k text ;"), 0);
        for (int what = 1; what <= 9; what++) Check.due("nothing is left: count(" + what + ")", x.count(what), 0);
        for (int what = 0; what <= 2; what++) Check.due("nothing is meant: judged(" + what + ")", x.judged(what), 0);
        Check.due("no ask", x.joining(0, 0), -1);
        Check.due("rows", Feeder.rows(x, "a x ; b x ;"), 0);
        Check.due("the row is not hidden any more", x.row(0, 2), 1);
        Check.due("no tie is let", x.tie(0, 1), -1);
        Check.due("ask again", Feeder.ask(x, "x"), 0);
        Check.due("nothing was chosen", x.asked(0, 2), 0);
        Check.due("nothing was meant", x.meant(1), 0);
        Check.due("lets again", x.lets(0), true);
        Check.due("ask for both tables", Feeder.ask(x, "a b"), 0);
        Check.due("the width stays", x.count(4), 0);
        Check.due("hide from the person that stayed", x.hide(2, 1, true), true);
        Check.due("that person asks still", x.count(2), 1);
        Check.due("tables a third time", Feeder.tables(x, "table a k text ;"), 0);
        Check.due("rows a third time", Feeder.rows(x, "a x ; a y ;"), 0);
        Check.due("all are seen", x.count(2), 2);
        Check.due("numbered from 0", x.row(1, 1), 1);
        Check.due("tables a fourth time", Feeder.tables(x, "table a k text , up a ;"), 0);
        Check.due("no row to point to", Feeder.rows(x, "a x 0 ;"), Check.fault(4, 4));
    }

    private static void wrongRows(String text, int kind, int place) {
        WordsAndRows x = Feeder.house(TWO, "a x ; b w 0 none 7 ;");
        Check.due("rows: " + text, Feeder.rows(x, text), Check.fault(kind, place));
        Check.due("none is told", x.count(1), 2);
        Check.due("the tape is taken", x.count(6), 0);
        Check.due("the next row of a", Feeder.rows(x, "a y ; b z 1 0 8 ;"), 0);
        Check.due("has the next number", x.row(2, 1), 1);
        Check.due("is pointed at by it", x.cell(3, 1), 2);
    }

    private static void rows() {
        wrongRows("c x ;", 2, 0);
        wrongRows("none x ;", 1, 0);
        wrongRows("5 x ;", 1, 0);
        wrongRows("; a x ;", 1, 0);
        wrongRows("a ;", 1, 2);
        wrongRows("a 5 ;", 1, 2);
        wrongRows("a none ;", 1, 2);
        wrongRows("a x", 1, 3);
        wrongRows("a x y ;", 1, 4);
        wrongRows("a x , a y ;", 1, 4);
        wrongRows("a abcdefghi ;", 1, 2);
        wrongRows("b x 0 none ;", 1, 11);
        wrongRows("b x 0 none x ;", 1, 11);
        wrongRows("b x 0 none none ;", 1, 11);
        wrongRows("b x 0 none 12345 ;", 1, 11);
        wrongRows("b x x none 1 ;", 1, 4);
        wrongRows("b x 1 none 1 ;", 4, 4);
        wrongRows("b x 9999 none 1 ;", 4, 4);
        // not the row itself, nor one behind
        wrongRows("b x 0 1 1 ;", 4, 6);
        wrongRows("a y ; b x 1 1 1 ;", 4, 12);
        wrongRows("a y ; a z ; a none ;", 1, 14);
        wrongRows("a y ; b x 1 0 3 ; c x ;", 2, 18);
        WordsAndRows x = Feeder.house("table a k text ;", "a y;".repeat(29));
        Check.due("a 31st row", Feeder.rows(x, "a y ; a y ;"), Check.fault(5, 6));
        Check.due("29 rows are told", x.count(1), 29);
        Check.due("a 30th row", Feeder.rows(x, "a y ;"), 0);
        Check.due("a 31st row alone", Feeder.rows(x, " a y ;"), Check.fault(5, 1));
        Check.due("of no table", Feeder.rows(x, " b y ;"), Check.fault(2, 1));
        Check.due("of no name", Feeder.rows(x, " of y ;"), Check.fault(1, 1));
        Check.due("no row at all", x.rows(), 0);
        Check.due("30 rows are told", x.count(1), 30);
        Check.due("rows without tables", Feeder.rows(new WordsAndRows(), "a y ;"), Check.fault(2, 0));
        Check.due("no rows without tables", new WordsAndRows().rows(), 0);
    }

    private static void rowsTogether() {
        WordsAndRows x = Feeder.house(TWO, "a x;b w 0 none 0012;");
        Check.due("rows behind the others", Feeder.rows(x, "a y;b v 1 0 9999;b u 00 1 0;"), 0);
        Check.due("five rows", x.count(1), 5);
        Check.due("numbered over all tables", x.row(3, 0) * 10 + x.row(3, 1), 11);
        Check.due("a key to a row of the same text", x.cell(3, 1), 2);
        Check.due("a key to a row of its table", x.cell(4, 2), 3);
        Check.due("a key with zeros ahead", x.cell(4, 1), 0);
        Check.due("a number with zeros ahead", x.cell(1, 3), 12);
        Feeder.ask(x, "y");
        Check.due("no y left out", x.found(0), 1);
        Feeder.rows(x, "a y;");
        Check.due("rows told behind an ask are found", x.found(0), 2);
        Check.due("and joined", x.count(4), 2);
    }

    private static void wrongAsk(String text, int kind, int place) {
        WordsAndRows x = Feeder.house(TWO, "a x ;");
        Feeder.ask(x, "x near y");
        Check.due("ask: " + text, Feeder.ask(x, text), Check.fault(kind, place));
        Check.due("the one ahead stays", x.count(3), 2);
        Check.due("the one ahead is asked", x.found(0), 1);
        Check.due("the tape is taken", x.count(6), 0);
    }

    private static void ask() {
        wrongAsk("", 1, 0);
        wrongAsk(" \n", 1, 2);
        wrongAsk("5", 1, 0);
        wrongAsk("table", 1, 0);
        wrongAsk("x of", 1, 2);
        wrongAsk("near", 1, 4);
        wrongAsk("near near", 1, 5);
        wrongAsk("near 5", 1, 5);
        wrongAsk("over x", 1, 5);
        wrongAsk("over over 5", 1, 5);
        wrongAsk("under 12345", 1, 6);
        wrongAsk("under", 1, 5);
        wrongAsk("x y : z", 1, 4);
        wrongAsk("a b c d e", 5, 8);
        wrongAsk("a b c d over", 5, 8);
        wrongAsk("a b c d 7", 1, 8);
        wrongAsk("a b c d of", 1, 8);
        wrongAsk("abcdefghi", 1, 0);
        WordsAndRows x = new WordsAndRows();
        Check.due("an ask without tables", Feeder.ask(x, "x"), 0);
        Check.due("a term", x.count(3), 1);
        Check.due("found nowhere", x.found(0), 0);
        Check.due("four terms", Feeder.ask(x, "x near x over 0 under 9999"), 0);
        Check.due("are four", x.count(3), 4);
        Check.due("the same word twice", Feeder.ask(x, "x x"), 0);
        Check.due("are two", x.count(3), 2);
    }

    private static void wrongQuestion(String text, int kind, int place) {
        WordsAndRows x = Feeder.house(TWO, "a x ; b w 0 none 3 ;");
        Feeder.ask(x, "x w");
        Check.due("question: " + text, Feeder.question(x, text), 100000 + Check.fault(kind, place));
        Check.due("the tape is taken", x.count(6), 0);
        Check.due("the ask stays", x.count(3), 2);
        Check.due("the question is read", Feeder.question(x, "a , b : x of a , w of b"), 0);
    }

    private static void question() {
        wrongQuestion("", 1, 0);
        wrongQuestion("5 : x of a", 1, 0);
        wrongQuestion("of : x of a", 1, 0);
        wrongQuestion("c : x of a", 2, 0);
        wrongQuestion("a", 1, 1);
        wrongQuestion("a b : x of a", 1, 2);
        wrongQuestion("a , : x of a", 1, 4);
        wrongQuestion("a , c : x of a", 2, 4);
        wrongQuestion("a :", 1, 3);
        wrongQuestion("a : x", 1, 5);
        wrongQuestion("a : x a", 1, 6);
        wrongQuestion("a : x of", 1, 8);
        wrongQuestion("a : x of of", 1, 9);
        wrongQuestion("a : x of c", 2, 9);
        wrongQuestion("a : x of a w of b", 1, 11);
        wrongQuestion("a : x of a ,", 1, 12);
        wrongQuestion("a : over x of a", 1, 9);
        wrongQuestion("a : near x of a : ", 1, 16);
        wrongQuestion("a,a,a,a,a,a : x of a", 5, 10);
        wrongQuestion("a,a,a,a,a,c : x of a", 2, 10);
        wrongQuestion("a,a,a,a,a,: x of a", 1, 10);
        wrongQuestion("a:x of a,x of a,x of a,x of a,x of a", 5, 30);
        wrongQuestion("a:x of a,x of a,x of a,x of a,near", 5, 30);
        wrongQuestion("a:x of a,x of a,x of a,x of a,7", 1, 30);
        WordsAndRows x = Feeder.house(TWO, "a x ; b w 0 none 3 ; b x none none 4 ;");
        Check.due("without an ask", Feeder.question(x, "a : x of a"), -1);
        Check.due("a fault without an ask", Feeder.question(x, "a : x of c"), 100000 + Check.fault(2, 9));
        Feeder.ask(x, "x");
        Check.due("the first question", Feeder.question(x, "a : x of a"), 0);
        Check.due("the second question", Feeder.question(x, "b : x of b"), 1);
        Check.due("none of that shape: rows", Feeder.question(x, "a , b : x of a"), -1);
        Check.due("none of that shape: terms", Feeder.question(x, "a : x of b"), -1);
        Check.due("another term", Feeder.question(x, "a : w of a"), -1);
        Check.due("another kind of term", Feeder.question(x, "a : near x of a"), -1);
        Check.due("a term more", Feeder.question(x, "a : x of a , x of a"), -1);
        Feeder.ask(x, "w over 2 x");
        Check.due("names in any order", Feeder.question(x, "b,a:w of b,over 2 of b,x of a"), 0);
        Check.due("a number is one however told", Feeder.question(x, "a,b:w of b,over 0002 of b,x of a"), 0);
        Check.due("terms in another order", Feeder.question(x, "a,b:over 2 of b,w of b,x of a"), -1);
        Check.due("a term less", Feeder.question(x, "a,b:w of b,over 2 of b"), -1);
        Check.due("under for over", Feeder.question(x, "a,b:w of b,under 2 of b,x of a"), -1);
    }

    private static void width() {
        WordsAndRows x = Feeder.house("table a k text , up a ;", "a p none ; a q 0 ; a r 1 ; a s 2 ; a t 3 ; a u 4 ;");
        for (int n : new int[] {Integer.MIN_VALUE, -1, 0, 6, 7, Integer.MAX_VALUE}) Check.due("width(" + n + ")", x.width(n), false);
        Feeder.ask(x, "p s");
        Check.due("four rows at first", x.count(4), 1);
        Feeder.ask(x, "p t");
        Check.due("not five", x.count(4), 0);
        Check.due("width(5)", x.width(5), true);
        Check.due("five", x.count(4), 1);
        Check.due("width(9)", x.width(9), false);
        Check.due("stays five", x.count(4), 1);
        Feeder.ask(x, "p u");
        Check.due("not six", x.count(4), 0);
        Check.due("width(1)", x.width(1), true);
        Feeder.ask(x, "p q");
        Check.due("one row alone", x.count(4), 0);
        Check.due("looks at one row alone", x.looks(100, 2), 6);
        Check.due("width(2)", x.width(2), true);
        Check.due("two rows", x.joining(0, 0), 3);
    }

    private static void tokens() {
        WordsAndRows x = new WordsAndRows();
        Check.due("a word right behind a number, a number right behind a word", Feeder.ask(x, "over5x"), 0);
        Check.due("are two terms", x.count(3), 2);
        Check.due("as long as can be", Feeder.ask(x, "overx"), 0);
        Check.due("is one term", x.count(3), 1);
        Check.due("eight letters", Feeder.ask(x, "abcdefgh"), 0);
        Check.due("four digits, five digits", Feeder.ask(x, "over 1234 over 12345"), Check.fault(1, 15));
        Check.due("a sign that is none", Feeder.ask(x, "x\n!"), Check.fault(1, 2));
        Check.due("a great letter", Feeder.ask(x, "x yZ"), Check.fault(1, 3));
    }
}
