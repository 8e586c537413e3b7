/** The document's section 1 under "Terms", a sentence at a time: the TAPE, TOKENS, what is read from it, FAULTS and their places. */
public final class LanguageEdgesTest {
    private static final String HOUSE = "table a k text ; table b k text , n number , to a , up b ;";
    private static final String ROWS = "a x ; b w 7 0 none ;";
    private static final String FIVE = "table a k text;table b k text;table c k text;table d k text;table e k text;";
    private static final String[] RESERVED = {"table", "text", "number", "none", "near", "over", "under", "of"};
    private static final String NINE = "abcdefghi";

    public static void main(String[] args) {
        tapeIsFull();
        tapeLeavesOut();
        readingTakesTheTape();
        tokensAsLongAsCanBe();
        longestWord();
        longestNumber();
        letterBehindANumber();
        blanks();
        otherSigns();
        anyNumberOfTables();
        kindsOfColumns();
        namesAreOthers();
        differentNames();
        anyNumberOfRows();
        cellsOfRows();
        keysOfRows();
        oneToFourTerms();
        namesAheadOfTheColon();
        termsOfAQuestion();
        theEnd();
        theFirstWrongToken();
        theLeastKind();
        tablesInPlaceOfAll();
        tablesWithAFault();
        rowsWithAFault();
        Check.end();
    }

    private static WordsAndRows house() {
        return Feeder.house(HOUSE, ROWS);
    }

    private static void tables(String text, int kind, int place) {
        Check.due("tables: " + text, Feeder.tables(house(), text), Check.fault(kind, place));
    }

    private static void rows(String text, int kind, int place) {
        Check.due("rows: " + text, Feeder.rows(house(), text), Check.fault(kind, place));
    }

    private static void ask(String text, int kind, int place) {
        Check.due("ask: " + text, Feeder.ask(house(), text), Check.fault(kind, place));
    }

    private static void question(String text, int kind, int place) {
        WordsAndRows x = house();
        Feeder.ask(x, "x");
        Check.due("question: " + text, Feeder.question(x, text), 100000 + Check.fault(kind, place));
    }

    /** "The TAPE has at most 1,000 signs." */
    private static void tapeIsFull() {
        WordsAndRows x = Feeder.house("table a k text ;", "a abcd ; a abc ; a abcde ;");
        Check.due("996 blanks", Feeder.feed(x, " ".repeat(996)), 996);
        Check.due("four of eight signs more", x.feed(0x6162636465666768L, 0, 0), 1000);
        Check.due("a full tape", x.count(6), 1000);
        Check.due("is read", x.ask(), 0);
        Check.due("without what was beyond", x.holds(0, 0), 0);
        Check.due("not one sign less", x.holds(1, 0), -1);
        Check.due("not one sign more", x.holds(2, 0), -1);
        Check.due("999 signs", Feeder.feed(x, "x".repeat(999)), 999);
        Check.due("the last one", Feeder.feed(x, "x"), 1000);
        Check.due("no more", Feeder.feed(x, "x"), 1000);
        Check.due("a word of 1,000 letters is none, at its first sign", x.ask(), Check.fault(1, 0));
        Check.due("room again", Feeder.feed(x, "x"), 1);
        x.ask();
        Feeder.feed(x, "x " + " ".repeat(997) + "?");
        Check.due("the last of 1,000 signs is wrong", x.ask(), Check.fault(1, 999));
        Feeder.feed(x, "x " + " ".repeat(998) + "?");
        Check.due("a wrong sign beyond 1,000 is left out", x.ask(), 0);
    }

    /** ".. signs, 10 and 32 .. 126"; "others .. are left out". */
    private static void tapeLeavesOut() {
        int[] out = {0, 1, 9, 11, 13, 31, 127, 128, 160, 254, 255};
        int[] in = {10, 32, 33, 65, 90, 97, 122, 125, 126};
        for (int place = 0; place < 8; place++) {
            WordsAndRows x = new WordsAndRows();
            for (int sign : out) {
                long bytes = (long) sign << 8 * place;
                Check.due("the sign " + sign + " is left out", x.feed(bytes, bytes, bytes), 0);
            }
            for (int i = 0; i < in.length; i++) {
                long bytes = (long) in[i] << 8 * place;
                Check.due("the sign " + in[i] + " is taken", x.feed(bytes, bytes, bytes), 3 * i + 3);
            }
        }
        Check.due("all bits", new WordsAndRows().feed(-1, -1, -1), 0);
        Check.due("no bits", new WordsAndRows().feed(0, 0, 0), 0);
        WordsAndRows x = Feeder.house("table a k text ;", "a abcdef ;");
        // a tab, an end of line of another kind and a sign above 126 are no blanks: they are not there
        x.feed(0x6109620d637f64ffL, 0x6580660000000000L, 0);
        Check.due("six of them are left", x.count(6), 6);
        Check.due("one word", x.ask(), 0);
        Check.due("of six letters", x.holds(0, 0), 0);
        x.feed(0x6162636400000000L, 0x0000006500000000L, 0x66);
        Check.due("in their order", x.ask() + x.holds(0, 0), 0);
    }

    /** "What reads it takes it: it is empty then." */
    private static void readingTakesTheTape() {
        String[] texts = {FIVE, "a x ;", "x", "a : x of a", "?"};
        for (String text : texts) {
            for (int reader = 0; reader < 4; reader++) {
                WordsAndRows x = house();
                Feeder.ask(x, "x");
                Feeder.feed(x, text);
                int answer = reader == 0 ? x.tables() : reader == 1 ? x.rows() : reader == 2 ? x.ask() : x.question();
                Check.due("taken by reader " + reader + ", which answered " + answer, x.count(6), 0);
                Check.due("what comes then is the first", Feeder.feed(x, "of"), 2);
                Check.due("and is read alone", x.ask(), Check.fault(1, 0));
            }
        }
        WordsAndRows x = house();
        Feeder.question(x, "a : x of a");
        Check.due("a question without an ask takes it, too", x.count(6), 0);
    }

    /** "TOKENS, each as long as can be." */
    private static void tokensAsLongAsCanBe() {
        WordsAndRows x = Feeder.house("table a k text ;", "a overx ; a nearly ; a tables ; a offer ;");
        String[] words = {"overx", "nearly", "tables", "offer"};
        for (int i = 0; i < words.length; i++) {
            Check.due("one word: " + words[i], Feeder.ask(x, words[i]), 0);
            Check.due("one term: " + words[i], x.count(3), 1);
            Check.due("it is it: " + words[i], x.holds(i, 0), 0);
        }
        tables("tablea k text ;", 1, 0);
        rows("ax ;", 2, 0);
        rows("b w 7 0 nonez ;", 1, 8);
        ask("over 12345", 1, 5);
        question("a : xof a", 1, 8);
    }

    /** "WORDS (letters a .. z, 8 at most)"; "a longer WORD ..., too, at its first sign". */
    private static void longestWord() {
        WordsAndRows x = new WordsAndRows();
        Check.due("names of 8 letters", Feeder.tables(x, "table abcdefgh abcdefgz text,abcdefgy abcdefgh;"), 0);
        Check.due("a cell of 8 letters", Feeder.rows(x, "abcdefgh zzzzzzzz none;"), 0);
        Check.due("terms of 8 letters", Feeder.ask(x, "zzzzzzzz near zzzzzzzy"), 0);
        Check.due("a question of such", Feeder.question(x, "abcdefgh:zzzzzzzz of abcdefgh,near zzzzzzzy of abcdefgh"), 0);
        tables("table " + NINE + " k text ;", 1, 6);
        tables("table a " + NINE + " text ;", 1, 8);
        tables("table a k " + NINE + " ;", 1, 10);
        tables("table a k text ; " + NINE + " b k text ;", 1, 17);
        rows(NINE + " x ;", 1, 0);
        rows("a " + NINE + " ;", 1, 2);
        rows("b " + NINE + " 7 none none ;", 1, 2);
        rows("b w 7 " + NINE + " none ;", 1, 6);
        ask(NINE, 1, 0);
        ask("x " + NINE, 1, 2);
        ask("near " + NINE, 1, 5);
        ask("x " + "y".repeat(100), 1, 2);
        question(NINE + " : x of a", 1, 0);
        question("a , " + NINE + " : x of a", 1, 4);
        question("a : " + NINE + " of a", 1, 4);
        question("a : near " + NINE + " of a", 1, 9);
        question("a : x of " + NINE, 1, 9);
        ask("abcdefgh abcdefgh" + "x", 1, 9);
    }

    /** "NUMBERS (1 to 4 digits ..)"; "a longer .. NUMBER, too, at its first sign". */
    private static void longestNumber() {
        WordsAndRows x = house();
        Check.due("1 to 4 digits", Feeder.rows(x, "b w 1 0 0;b w 12 00 00;b w 123 000 000;b w 9999 0000 0000;"), 0);
        int[] due = {1, 12, 123, 9999};
        for (int i = 0; i < 4; i++) {
            Check.due("the number in row " + (2 + i), x.cell(2 + i, 1), due[i]);
            Check.due("the key in row " + (2 + i), x.cell(2 + i, 2), 0);
            Check.due("the key to its table in row " + (2 + i), x.cell(2 + i, 3), 1);
        }
        Check.due("terms of 4 digits", Feeder.ask(x, "over 9998 under 0001"), 0);
        Check.due("above 9998", x.found(0), 1);
        Check.due("nothing is below 1", x.found(1), 0);
        rows("b w 12345 0 none ;", 1, 4);
        rows("b w 00000 0 none ;", 1, 4);
        rows("b w 7 00000 none ;", 1, 6);
        rows("b w 7 0 00000 ;", 1, 8);
        ask("over 12345", 1, 5);
        ask("under 00001", 1, 6);
        ask("over 4294967297", 1, 5);
        ask("over " + "1".repeat(900), 1, 5);
        question("a : over 12345 of a", 1, 9);
        question("a : under 00000 of a", 1, 10);
    }

    /** "A letter may stand right behind." */
    private static void letterBehindANumber() {
        WordsAndRows x = Feeder.house("table a n number , k text , to a , l text ;", "a 12x none z;a 9999zzzzzzzz 0w;");
        Check.due("two rows", x.count(1), 2);
        Check.due("a number", x.cell(0, 0), 12);
        Check.due("its word right behind", x.cell(0, 1), 24);
        Check.due("four digits", x.cell(1, 0), 9999);
        Check.due("eight letters right behind", x.cell(1, 1), Feeder.code("zzzzzzzz"));
        Check.due("a key", x.cell(1, 2), 0);
        Check.due("its word right behind", x.cell(1, 3), Feeder.code("w"));
        Check.due("terms", Feeder.ask(x, "over5under6x"), 0);
        Check.due("are three", x.count(3), 3);
        Check.due("a question, too", Feeder.question(x, "a:over5of a,under6of a,x of a"), -1);
        Check.due("nine letters right behind are none", Feeder.ask(x, "over 5" + NINE), Check.fault(1, 6));
        Check.due("five digits are none, whatever is behind", Feeder.ask(x, "over 12345x"), Check.fault(1, 5));
    }

    /** "Blanks (10, 32) between where one likes." */
    private static void blanks() {
        WordsAndRows x = new WordsAndRows();
        Check.due("many blanks", Feeder.tables(x, "\n \ntable\n\na  k\ntext \n,\nl text\n;\n "), 0);
        Check.due("rows", Feeder.rows(x, "\n\na\nx\ny\n;\n\n"), 0);
        Check.due("ask", Feeder.ask(x, "\n x\n\nnear\ny over \n 5 "), 0);
        Check.due("three terms", x.count(3), 3);
        Feeder.ask(x, "x");
        Check.due("question", Feeder.question(x, "\na\n:\nx\nof\na\n"), 0);
        Check.due("no blanks", Feeder.tables(x, "table a k text,l number;table b k a;"), 0);
        Check.due("no blanks in rows", Feeder.rows(x, "a x 5;b 0;"), 0);
        Feeder.ask(x, "x b");
        Check.due("no blanks in a question", Feeder.question(x, "a,b:x of a,b of b"), 0);
        Check.due("a blank ends a word", Feeder.ask(x, "x y"), 0);
        Check.due("so there are two", x.count(3), 2);
        Check.due("a line's end, too", Feeder.ask(x, "x\ny\nz"), 0);
        Check.due("so there are three", x.count(3), 3);
        Check.due("places count blanks", Feeder.ask(x, "\n \n x  \n ;"), Check.fault(1, 9));
    }

    /** "The signs , : ;   All else .. is none." */
    private static void otherSigns() {
        for (char sign = 33; sign < 127; sign++) {
            boolean part = sign >= 'a' && sign <= 'z' || sign >= '0' && sign <= '9';
            if (part) continue;
            ask("x" + sign, 1, 1);
            ask(" " + sign + "x", 1, 1);
            if (sign != ',') rows("a x" + (sign == ';' ? ":" : String.valueOf(sign)) + ";", 1, 3);
            if (sign != ';') rows("a x" + sign, 1, 3);
            if (sign != ';' && sign != ',') tables("table a k text" + sign, 1, 14);
            if (sign != ',') tables("table a k text" + (sign == ';' ? ":" : String.valueOf(sign)) + "l text;", 1, 14);
            if (sign != ':' && sign != ',') question("a" + sign + "x of a", 1, 1);
            if (sign != ',') question("a:x of a" + sign, 1, 8);
        }
        ask("xY", 1, 1);
        ask("aB", 1, 1);
        ask("x-y", 1, 1);
    }

    /** "TABLES: any number of .."; "5 TABLES, 4 COLUMNS each at most"; "5 one too many: the word table of a sixth, the NAME of a fifth COLUMN". */
    private static void anyNumberOfTables() {
        WordsAndRows x = new WordsAndRows();
        for (int many = 0; many <= 5; many++) {
            Check.due("tables, so many: " + many, Feeder.tables(x, FIVE.substring(0, 15 * many)), 0);
            Check.due("are told", x.count(0), many);
        }
        tables(FIVE + "table f k text;", 5, 75);
        tables(FIVE + "table", 5, 75);
        tables(FIVE + "table a a a a", 5, 75);
        tables(FIVE + FIVE, 5, 75);
        tables(FIVE + "  f", 1, 77);
        String four = "table a k text , l number , m a , n text";
        Check.due("four columns", Feeder.tables(x, four + " ;"), 0);
        Check.due("rows have four cells", Feeder.rows(x, "a x 5 none y ;"), 0);
        Check.due("the fourth", x.cell(0, 3), 25);
        tables(four + " , o text ;", 5, 43);
        tables(four + " , o", 5, 43);
        tables(four + " , o 5 ;", 5, 43);
        tables(four + " ,", 1, 42);
        tables(four + " o", 1, 41);
        Check.due("twenty columns", Feeder.tables(x, (four + " ;") + four.replace("table a", "table b") + " ;"
            + four.replace("table a", "table c") + ";" + four.replace("table a", "table d") + ";" + four.replace("table a", "table e") + ";"), 0);
        Check.due("five tables", x.count(0), 5);
        tables("table a ;", 1, 8);
        tables("table ;", 1, 6);
    }

    /** "KIND: text, number, or the NAME of a TABLE told ahead or this one"; "2 a NAME of a TABLE that is not told". */
    private static void kindsOfColumns() {
        WordsAndRows x = new WordsAndRows();
        Check.due("told ahead, and this one", Feeder.tables(x, "table p k p ; table q k p , l q , m text , n number ;"), 0);
        Check.due("rows of them", Feeder.rows(x, "p none ; p 0 ; q 1 none x 5 ; q none 0 y 6 ;"), 0);
        Check.due("points to p", x.cell(2, 0), 1);
        Check.due("points to q", x.cell(3, 1), 2);
        tables("table p k q ; table q k p ;", 2, 10);
        // a and b are told, but these tables come in place of them
        tables("table p k a ;", 2, 10);
        // the name of a column is none of a table
        tables("table p k text , l k ;", 2, 19);
        for (String word : RESERVED) {
            boolean kind = word.equals("text") || word.equals("number");
            if (!kind) tables("table a k " + word + " ;", 1, 10);
        }
        tables("table a k 5 ;", 1, 10);
        tables("table a k , l text ;", 1, 10);
        tables("table a k text number ;", 1, 15);
    }

    /** "NAMES, and the WORDS of CELLS and TERMS, are other WORDS than table, text, number, none, near, over, under, of." */
    private static void namesAreOthers() {
        for (String word : RESERVED) {
            tables("table " + word + " k text ;", 1, 6);
            tables("table a " + word + " text ;", 1, 8);
            tables("table a k text , " + word + " text ;", 1, 17);
            rows(word + " x ;", 1, 0);
            rows("a " + word + " ;", 1, 2);
            ask("near " + word, 1, 5);
            ask("x near " + word, 1, 7);
            boolean begins = word.equals("near") || word.equals("over") || word.equals("under");
            ask(word, 1, begins ? word.length() : 0);
            question(word + " : x of a", 1, 0);
            question("a , " + word + " : x of a", 1, 4);
            question("a : near " + word + " of a", 1, 9);
            question("a : x of " + word, 1, 9);
            question("a : " + word + " of a", 1, begins ? 5 + word.length() : 4);
            // with a letter more or less it is any word
            WordsAndRows x = new WordsAndRows();
            String longer = word + "x";
            String shorter = word.substring(1);
            Check.due("told: " + longer, Feeder.tables(x, "table " + longer + " " + shorter + " text ;"), 0);
            Check.due("rows: " + shorter, Feeder.rows(x, longer + " " + shorter + " ;"), 0);
            Check.due("asked: " + longer, Feeder.ask(x, longer + " near " + shorter), 0);
        }
    }

    /** "TABLES have different NAMES, COLUMNS of one TABLE too"; "3 a NAME of a TABLE, of a COLUMN in it, that is told". */
    private static void differentNames() {
        tables("table p k text ; table p l text ;", 3, 23);
        tables("table p k text ; table q k text ; table p k text ;", 3, 40);
        tables("table p k text , k number ;", 3, 17);
        tables("table p k text , l text , k p ;", 3, 26);
        WordsAndRows x = house();
        Check.due("names of tables told before", Feeder.tables(x, HOUSE), 0);
        Check.due("a column with its table's name, one with another's", Feeder.tables(x, "table p p text ; table q p text , q number ;"), 0);
        Check.due("a table with a column's name", Feeder.tables(x, "table p k text ; table k p text ;"), 0);
        Check.due("columns of two tables with one name", Feeder.tables(x, "table p k text , l text ; table q k text , l text ;"), 0);
        Check.due("two tables", x.count(0), 2);
    }

    /** "ROWS: any number of .."; "30 ROWS at most"; "5 .. the first NAME of a 31st ROW". */
    private static void anyNumberOfRows() {
        WordsAndRows x = Feeder.house("table a k text ;", "");
        Check.due("no row", x.rows(), 0);
        Check.due("none is told", x.count(1), 0);
        Check.due("31 rows at once", Feeder.rows(x, "a y;".repeat(31)), Check.fault(5, 120));
        Check.due("none of them is told", x.count(1), 0);
        Check.due("30 rows and a wrong name", Feeder.rows(x, "a y;".repeat(30) + "b"), Check.fault(2, 120));
        Check.due("30 rows and a word that is no name", Feeder.rows(x, "a y;".repeat(30) + "of"), Check.fault(1, 120));
        Check.due("30 rows and a sign", Feeder.rows(x, "a y;".repeat(30) + ";"), Check.fault(1, 120));
        Check.due("30 rows and a name alone", Feeder.rows(x, "a y;".repeat(30) + "a"), Check.fault(5, 120));
        Check.due("30 rows at once", Feeder.rows(x, "a y;".repeat(30)), 0);
        Check.due("30 are told", x.count(1), 30);
        Check.due("the last one", x.row(29, 1), 29);
        Check.noSuchRow(x, 30, 0);
        Check.due("one more", Feeder.rows(x, "a y;"), Check.fault(5, 0));
        Check.due("no more", Feeder.rows(x, "\n"), 0);
        Check.due("30 are told still", x.count(1), 30);
        WordsAndRows y = house();
        Check.due("28 more", Feeder.rows(y, "a y;".repeat(27) + "b w 1 27 0;"), 0);
        Check.due("a 31st", Feeder.rows(y, "b w 1 99 0;"), Check.fault(5, 0));
    }

    /** ".. NAME CELL .. ;   (of a TABLE) with a CELL for each COLUMN: of text a WORD, of number a NUMBER, .." */
    private static void cellsOfRows() {
        rows("c x ;", 2, 0);
        rows("k x ;", 2, 0);
        rows("a ;", 1, 2);
        rows("a x x ;", 1, 4);
        rows("a 5 ;", 1, 2);
        rows("a , ;", 1, 2);
        rows("b w ;", 1, 4);
        rows("b w 7 ;", 1, 6);
        rows("b w 7 0 ;", 1, 8);
        rows("b w 7 0 none none ;", 1, 13);
        rows("b 7 7 0 none ;", 1, 2);
        rows("b w w 0 none ;", 1, 4);
        rows("b w none 0 none ;", 1, 4);
        rows("b none 7 0 none ;", 1, 2);
        rows("a x : a x ;", 1, 4);
        Check.due("a row of no table told", Feeder.rows(new WordsAndRows(), "a x ;"), Check.fault(2, 0));
    }

    /** ".. of a KEY a NUMBER (of a ROW of that TABLE told ahead, counted from 0 in it) or none"; "4 a NUMBER of a KEY that is no ROW". */
    private static void keysOfRows() {
        rows("b w 7 1 none ;", 4, 6);
        rows("b w 7 9999 none ;", 4, 6);
        rows("b w 7 x none ;", 1, 6);
        rows("b w 7 : none ;", 1, 6);
        rows("b w 7 nones none ;", 1, 6);
        // b has one row: this one is told only behind its own cells
        rows("b w 7 0 1 ;", 4, 8);
        rows("b w 7 0 1 ; b w 7 0 0 ;", 4, 8);
        rows("b w 7 1 0 ; a y ;", 4, 6);
        WordsAndRows x = house();
        Check.due("a row of the same text", Feeder.rows(x, "a y ; b w 7 1 0 ; b w 7 none 1 ; b w 7 0 2 ;"), 0);
        Check.due("the second of a", x.cell(3, 2), 2);
        Check.due("the first of b", x.cell(3, 3), 1);
        Check.due("none", x.cell(4, 2), -1);
        Check.due("the second of b", x.cell(4, 3), 3);
        Check.due("the third of b", x.cell(5, 3), 4);
        Check.due("one beyond the last", Feeder.rows(x, "b w 7 2 none ;"), Check.fault(4, 6));
        Check.due("one beyond the last of b", Feeder.rows(x, "b w 7 none 4 ;"), Check.fault(4, 11));
        Check.due("the last ones", Feeder.rows(x, "b w 7 1 3 ;"), 0);
        x.hide(0, 0, true);
        Check.due("a row that is not seen is told all the same", Feeder.rows(x, "b w 7 0 none ; b w 7 1 none ;"), 0);
        Check.due("but no key to it is seen", x.cell(7, 2), -1);
        Check.due("it is counted", x.cell(8, 2), 2);
    }

    /** "ASK: one to 4 TERMS: a WORD, near WORD, over N, under N"; "5 .. the first token of a fifth TERM". */
    private static void oneToFourTerms() {
        WordsAndRows x = house();
        String[] asks = {"x", "x y", "near x over 5 under 5", "x x x x", "near x near x near x near x", "over 1 under 2 near x y"};
        int[] terms = {1, 2, 3, 4, 4, 4};
        for (int i = 0; i < asks.length; i++) {
            Check.due("ask: " + asks[i], Feeder.ask(x, asks[i]), 0);
            Check.due("terms: " + asks[i], x.count(3), terms[i]);
        }
        ask("", 1, 0);
        ask("x x x x x", 5, 8);
        ask("x x x x near x", 5, 8);
        ask("x x x x near", 5, 8);
        ask("x x x x over 5", 5, 8);
        ask("x x x x under y", 5, 8);
        ask("over 1 over 2 over 3 over 4 over 5", 5, 28);
        ask("near a near b near c near d e", 5, 28);
        ask("x x x x 5", 1, 8);
        ask("x x x x ,", 1, 8);
        ask("x x x x of", 1, 8);
        ask("x x x x " + NINE, 1, 8);
        ask("x , y", 1, 2);
        ask("5", 1, 0);
        ask("near", 1, 4);
        ask("near 5", 1, 5);
        ask("over", 1, 4);
        ask("over x", 1, 5);
        ask("under", 1, 5);
        ask("under ;", 1, 6);
        ask("over near x", 1, 5);
    }

    /** "QUESTION: NAME { , NAME } : .. (of TABLES)"; "5 .. of a sixth NAME in a QUESTION ahead of the colon". */
    private static void namesAheadOfTheColon() {
        WordsAndRows x = house();
        Feeder.ask(x, "x");
        String[] heads = {"a", "a,b", "a,b,a", "a,b,a,b", "a,a,a,a,b"};
        for (int i = 0; i < heads.length; i++) {
            Check.due("so many names: " + (i + 1), Feeder.question(x, heads[i] + ":x of a"), i == 0 ? 0 : -1);
        }
        question("a,a,a,a,a,b : x of a", 5, 10);
        question("a , a , a , a , a , a", 5, 20);
        question("a,a,a,a,a,c : x of a", 2, 10);
        question("a,a,a,a,a,of : x of a", 1, 10);
        question("a,a,a,a,a,5 : x of a", 1, 10);
        question("a,a,a,a,a,: x of a", 1, 10);
        question("a,a,a,a,a,", 1, 10);
        question("a,a,a,a,a a : x of a", 1, 10);
        question(": x of a", 1, 0);
        question("5 : x of a", 1, 0);
        question("c : x of a", 2, 0);
        question("a , c : x of a", 2, 4);
        question("k : x of a", 2, 0);
        question("a ; x of a", 1, 2);
        question("a x of a", 1, 2);
        Check.due("no tables told", Feeder.question(new WordsAndRows(), "a : x of a"), 100000 + Check.fault(2, 0));
    }

    /** "QUESTION: .. : TERM of NAME { , TERM of NAME }"; "5 .. the first token of a fifth TERM". */
    private static void termsOfAQuestion() {
        WordsAndRows x = house();
        Feeder.ask(x, "x near x x x");
        Check.due("four terms", Feeder.question(x, "a:x of a,near x of a,x of a,x of a"), 0);
        Check.due("three of them", Feeder.question(x, "a:x of a,near x of a,x of a"), -1);
        question("a:x of a,x of a,x of a,x of a,x of a", 5, 30);
        question("a:x of a,x of a,x of a,x of a,near x of a", 5, 30);
        question("a:x of a,x of a,x of a,x of a,over", 5, 30);
        question("a:x of a,x of a,x of a,x of a,under 5 of a", 5, 30);
        question("a:x of a,x of a,x of a,x of a,", 1, 30);
        question("a:x of a,x of a,x of a,x of a,of", 1, 30);
        question("a:x of a,x of a,x of a,x of a x", 1, 30);
        question("a : of a", 1, 4);
        question("a : 5 of a", 1, 4);
        question("a : near of a", 1, 9);
        question("a : over x of a", 1, 9);
        question("a : under of a", 1, 10);
        question("a : x a", 1, 6);
        question("a : x y of a", 1, 6);
        question("a : x of", 1, 8);
        question("a : x of 5", 1, 9);
        question("a : x of c", 2, 9);
        question("a : x of k", 2, 9);
        question("a : x of a , y of c", 2, 18);
        question("a : x of a y of a", 1, 11);
        question("a : x of a ;", 1, 11);
        question("a : x of a :", 1, 11);
        question("a : x of a ,", 1, 12);
        question("a : x of a , , y of a", 1, 13);
    }

    /** ".. the place (from 0) of a token, the end being one at the text's length". */
    private static void theEnd() {
        String tables = "table a k text , l text ;";
        int[] tableEnds = {5, 7, 9, 14, 16, 18, 23};
        for (int end : tableEnds) {
            tables(tables.substring(0, end), 1, end);
            tables(tables.substring(0, end) + " \n ", 1, end + 3);
        }
        String rows = "b w 7 0 none ;";
        int[] rowEnds = {1, 3, 5, 7, 12};
        for (int end : rowEnds) {
            rows(rows.substring(0, end), 1, end);
            rows(rows.substring(0, end) + "  ", 1, end + 2);
        }
        String[] asks = {"", "near", "over", "under", "x near", "x x x over"};
        for (String ask : asks) {
            ask(ask, 1, ask.length());
            ask(ask + "\n", 1, ask.length() + 1);
        }
        String question = "a , b : near x of a , over 5 of b";
        int[] questionEnds = {0, 1, 3, 5, 7, 12, 14, 17, 21, 26, 28, 31};
        for (int end : questionEnds) {
            question(question.substring(0, end), 1, end);
            question(question.substring(0, end) + " ", 1, end + 1);
        }
        tables("table" + " ".repeat(995), 1, 1000);
        rows("a" + " ".repeat(999), 1, 1000);
        ask(" ".repeat(1000), 1, 1000);
        question("a" + "\n".repeat(999), 1, 1000);
        rows("a" + " ".repeat(998) + "5", 1, 999);
    }

    /** "FAULTS .. of the first token from the left that is wrong". */
    private static void theFirstWrongToken() {
        tables("table of of of ;", 1, 6);
        tables("table a of c ; table a k c ;", 1, 8);
        tables("table a k c , k text ;", 2, 10);
        tables("table a k text , k c ;", 3, 17);
        tables("table a k text ; table a of text ;", 3, 23);
        rows("c of ;", 2, 0);
        rows("b of x 9 9 ;", 1, 2);
        rows("b w 7 9 x ;", 4, 6);
        rows("a y ; c x ; ?", 2, 6);
        ask("of " + NINE, 1, 0);
        ask("x x x x y ?", 5, 8);
        question("c : of of d", 2, 0);
        question("a , a , a , a , a , a , c ?", 5, 20);
        question("a : x of c , ?", 2, 9);
    }

    /** ".. of the first token .. that is wrong the least [kind]". */
    private static void theLeastKind() {
        String four = "table a k text,l text,m text,n text,";
        tables(four + "o text;", 5, 36);
        tables(four + "k text;", 3, 36);
        tables(four + "n text;", 3, 36);
        tables(four + "of text;", 1, 36);
        tables(four + "7 text;", 1, 36);
        tables(FIVE + "of", 1, 75);
        WordsAndRows x = Feeder.house("table a k text ;", "a y;".repeat(30));
        Check.due("a 31st of a table told", Feeder.rows(x, "a"), Check.fault(5, 0));
        Check.due("a 31st of one not told", Feeder.rows(x, "b"), Check.fault(2, 0));
        Check.due("a 31st of no name", Feeder.rows(x, "none"), Check.fault(1, 0));
        Check.due("a 31st of no word", Feeder.rows(x, "A"), Check.fault(1, 0));
    }

    /** "TABLES without a FAULT are in place of all that was told (no ROWS, ASK, RIGHTS then, nothing CHOSEN, LET or MEANT)." */
    private static void tablesInPlaceOfAll() {
        WordsAndRows x = Feeder.house("table a k text , up a ; table b k text ;", "a x none ; a y 0 ; b x ; b y ; a x 1 ;");
        fillAll(x);
        Check.due("the same tables", Feeder.tables(x, "table a k text , up a ; table b k text ;"), 0);
        Check.due("two tables", x.count(0), 2);
        for (int what = 1; what <= 9; what++) Check.due("nothing is left: count(" + what + ")", x.count(what), 0);
        for (int what = 0; what <= 2; what++) Check.due("nothing was meant: judged(" + what + ")", x.judged(what), 0);
        Check.noSuchRow(x, 0, 0);
        Check.due("no cell", x.cell(0, 0), -1);
        Check.due("no tie", x.tie(0, 1), -1);
        Check.due("no offer", x.offered(0), -1);
        Check.due("no row to hide", x.hide(0, 0, true), false);
        Check.due("no ask: joining", x.joining(0, 0), -1);
        Check.due("no ask: found", x.found(0), -1);
        Check.due("no ask: left", x.left(), -1);
        Check.due("no ask: choose", x.choose(0), -1);
        Check.due("no ask: meant", x.meant(1), -1);
        Check.due("rows again", Feeder.rows(x, "a x none ; a y none ; b x ; b y ;"), 0);
        Check.due("numbered from 0", x.row(0, 1), 0);
        Check.due("none is hidden", x.count(2), 4);
        Check.due("no ties", x.count(9), 0);
        Check.due("ask again", Feeder.ask(x, "x y"), 0);
        Check.due("nothing hangs together", x.count(4), 0);
        Check.due("four single rows are looked at", x.looks(1000000, 2), 4);
        Check.due("ask for one", Feeder.ask(x, "x"), 0);
        Check.due("never chosen", x.asked(0, 2), 0);
        Check.due("chosen for the first time", x.choose(0), 1);
        Check.due("meant for the first time", x.meant(1), 0);
        Check.due("let for the first time", x.lets(0), true);
        Check.due("one is let", x.count(8), 1);
    }

    private static void fillAll(WordsAndRows x) {
        Check.due("a tie is let", x.lets(0), true);
        Feeder.ask(x, "x y");
        Check.due("joinings", x.count(4) > 0, true);
        Check.due("ties", x.count(9) > 2, true);
        Check.due("offers", x.count(7) > 0, true);
        Check.due("chosen", x.choose(0), 1);
        Check.due("chosen again", x.choose(0), 2);
        Check.due("meant", x.meant(x.joining(0, 0)), 0);
        Check.due("found so", x.judged(1), 1);
        for (int p = 0; p < 4; p++) Check.due("hidden from " + p, x.hide(p, p, true), true);
        Check.due("all is found anew", x.count(4) + x.count(9) + x.count(7) > 0, true);
    }

    /** "The TAPE is read as TABLES: .. its FAULT (all stays then)." */
    private static void tablesWithAFault() {
        WordsAndRows x = Feeder.house("table a k text , up a ; table b k text ;", "a x none ; a y 0 ; b x ; b y ; a x 1 ;");
        fillAll(x);
        int[] counts = new int[10];
        for (int what = 0; what <= 9; what++) counts[what] = x.count(what);
        int set = x.joining(0, 0);
        for (String text : new String[] {"table c k text", "table c k d ;", "table c k text ; table c k text ;", FIVE + "table", "?"}) {
            Check.due("a fault: " + text, Feeder.tables(x, text) != 0, true);
            for (int what = 0; what <= 9; what++) Check.due("all stays: count(" + what + ")", x.count(what), counts[what]);
            Check.due("the ask stays", x.joining(0, 0), set);
            Check.due("what is chosen stays", x.asked(0, 2), 2);
            Check.due("what is meant stays", x.judged(0), 1);
            Check.due("what is hidden stays", x.row(0, 2), 0);
            Check.due("cells stay", x.cell(4, 0), 24);
        }
        Check.due("the names are those told before", Feeder.rows(x, "c x ;"), Check.fault(2, 0));
        Check.due("rows of the tables that stay", Feeder.rows(x, "a z 2 ; b z ;"), 0);
    }

    /** "ROWS without a FAULT are told behind the others, numbered 0, 1, .. over all TABLES (with one none of that text is)." */
    private static void rowsWithAFault() {
        WordsAndRows x = Feeder.house(HOUSE, "");
        Check.due("the first text has a fault", Feeder.rows(x, "a x ; b w 7 0 none ; a 5 ;"), Check.fault(1, 23));
        Check.due("none of it is told", x.count(1), 0);
        Check.noSuchRow(x, 0, 0);
        Check.due("nor to be pointed at", Feeder.rows(x, "b w 7 0 none ;"), Check.fault(4, 6));
        Check.due("a single row with one", Feeder.rows(x, "a x"), Check.fault(1, 3));
        Check.due("none is told", x.count(1), 0);
        Check.due("without one", Feeder.rows(x, "a x ; b w 7 0 none ;"), 0);
        Check.due("with one again", Feeder.rows(x, "a y ; b v 8 1 0 ; b u 9 1 3 ;"), Check.fault(4, 26));
        Check.due("two are told", x.count(1), 2);
        Check.due("the one not told is no row to point at", Feeder.rows(x, "b v 8 1 0 ;"), Check.fault(4, 6));
        Check.due("behind the others", Feeder.rows(x, "b t 1 none 0 ; a z ;"), 0);
        int[] tables = {0, 1, 1, 0};
        int[] numbers = {0, 0, 1, 1};
        for (int row = 0; row < 4; row++) {
            Check.due("table of row " + row, x.row(row, 0), tables[row]);
            Check.due("number of row " + row, x.row(row, 1), numbers[row]);
        }
        Check.due("cells of what was not told are not there", x.cell(2, 0), Feeder.code("t"));
        Feeder.ask(x, "z");
        Check.due("one holds z", x.found(0), 1);
        Feeder.rows(x, "a z ; a z ; a z");
        Check.due("those with a fault hold nothing", x.found(0), 1);
        Check.due("nor are they joined", x.count(4), 1);
    }
}
