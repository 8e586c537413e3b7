/** The document's sections 2 to 6 under "Terms", a sentence at a time. */
public final class SectionEdgesTest {
    private static final int MOST = 1000000;

    public static void main(String[] args) {
        asIfThereWereNoOthers();
        keyToARowNotSeen();
        priceOfAWord();
        priceOfANearWord();
        everyLetterOfEight();
        priceOfANumber();
        priceOfATie();
        pointingByThisColumn();
        width();
        noneCanBeLeftOut();
        noneOfFiveCanBeLeftOut();
        priceOfAJoining();
        orderOfJoinings();
        looksAtAllSets();
        looksAtNoOtherSets();
        looksBehindTheLast();
        bound();
        boundOfWhatIsSeen();
        shapeAndItsQuestion();
        sentence();
        questionThatIsRead();
        parts();
        leftOut();
        chosen();
        rank();
        meant();
        rights();
        offered();
        offeredInOrder();
        lets();
        twentyLet();
        Check.end();
    }

    // ---- section 2

    /** "SEEN are the ROWS that the PERSON asking (0 to 3; 0 at first) may see; all below is as if there were no others." */
    private static void asIfThereWereNoOthers() {
        String tables = "table a k text , up a ; table b k text , to a , n number ;";
        String rows = "a p none ; a q 0 ; b r 1 5 ; b p 1 6 ; b s 0 7 ;";
        String[] asks = {"p q", "r s", "p p", "near pp over 4", "b k", "q z"};
        for (String ask : asks) {
            WordsAndRows x = Feeder.house(tables, rows + "b q 1 8 ; b z 1 9 ; a s none ; a r 1 ;");
            WordsAndRows y = Feeder.house(tables, rows);
            for (int row = 5; row < 9; row++) x.hide(0, row, true);
            Feeder.ask(x, ask);
            Feeder.ask(y, ask);
            sameTies(x, y);
            sameJoinings(x, y);
            sameQuestions(x, y);
            x.person(1);
            Check.due("another person sees them: " + ask, x.count(2), 9);
        }
    }

    private static void sameTies(WordsAndRows x, WordsAndRows y) {
        for (int what = 2; what <= 9; what++) Check.due("as if not there: count(" + what + ")", x.count(what), y.count(what));
        for (int a = 0; a < 9; a++) {
            for (int b = 0; b < 9; b++) Check.due("as if not there: tie", x.tie(a, b), y.tie(a, b));
            for (int term = 0; term < 2; term++) Check.due("as if not there: holds", x.holds(a, term), y.holds(a, term));
            for (int column = 0; column < 3; column++) Check.due("as if not there: cell", x.cell(a, column), y.cell(a, column));
        }
    }

    private static void sameJoinings(WordsAndRows x, WordsAndRows y) {
        for (int k = 0; k <= y.count(4); k++) {
            for (int what = 0; what < 4; what++) Check.due("as if not there: joining", x.joining(k, what), y.joining(k, what));
            for (int term = 0; term < 2; term++) Check.due("as if not there: place", x.place(k, term), y.place(k, term));
        }
        for (int n = 0; n < 30; n += 3) {
            for (int what = 0; what < 3; what++) Check.due("as if not there: looks", x.looks(n, what), y.looks(n, what));
        }
    }

    private static void sameQuestions(WordsAndRows x, WordsAndRows y) {
        for (int q = 0; q <= y.count(5); q++) {
            for (int what = 0; what < 5; what++) Check.due("as if not there: asked", x.asked(q, what), y.asked(q, what));
        }
        for (int term = 0; term < 2; term++) {
            Check.due("as if not there: found", x.found(term), y.found(term));
            for (int i = 0; i < 3; i++) Check.due("as if not there: near", x.near(term, i), y.near(term, i));
        }
        Check.due("as if not there: parts", x.parts(0), y.parts(0));
        Check.due("as if not there: parts", x.parts(1), y.parts(1));
        Check.due("as if not there: left", x.left(), y.left());
        for (int i = 0; i < 3; i++) Check.due("as if not there: offered", x.offered(i), y.offered(i));
    }

    /** "A KEY to one is none." */
    private static void keyToARowNotSeen() {
        WordsAndRows x = Feeder.house("table a k text , f a , g a ;", "a p none none ; a q 0 0 ; a r 0 1 ; a s 2 none ;");
        x.hide(0, 0, true);
        Check.due("a key to it", x.cell(1, 1), -1);
        Check.due("by another column", x.cell(1, 2), -1);
        Check.due("of another row", x.cell(2, 1), -1);
        Check.due("a key to another row", x.cell(2, 2), 1);
        Check.due("no tie to it", x.tie(1, 0), -1);
        Check.due("nor from it", x.tie(0, 2), -1);
        Check.due("a tie of others", x.tie(2, 1), 1);
        Check.due("two ties are left", x.count(9), 2);
        Feeder.ask(x, "q s");
        Check.due("joined by what is seen", x.joining(0, 0), 14);
        x.hide(0, 2, true);
        Check.due("not joined by what is not", x.count(4), 0);
        x.hide(0, 2, false);
        x.hide(0, 0, false);
        Check.due("the key again", x.cell(1, 1), 0);
        Check.due("five pairs: two keys to one row are one tie", x.count(9), 4);
    }

    private static int price(WordsAndRows x, String term, int row) {
        Check.due("ask: " + term, Feeder.ask(x, term), 0);
        return x.holds(row, 0);
    }

    /** "A ROW HOLDS a TERM at a PRICE, the least that fits: a WORD: 0 .., 1 .., 3 .., 4 .." */
    private static void priceOfAWord() {
        WordsAndRows x = Feeder.house("table town town text , land text , size number , up town ;",
            "town ulm bonn 5 none ; town towns x 5 none ; town town towns 5 none ; town lands sizes 5 0 ; town up a 5 0 ;");
        Check.due("0: a cell", price(x, "ulm", 0), 0);
        Check.due("0: a cell of the second column", price(x, "bonn", 0), 0);
        Check.due("1: a cell with s behind", price(x, "land", 3), 1);
        Check.due("1: the cell of a term with s behind", price(x, "ulms", 0), 1);
        Check.due("1: the last column's", price(x, "bonns", 0), 1);
        Check.due("3: the table's name", price(x, "town", 0), 3);
        Check.due("3 is less than 4: the name of a column, too", price(x, "town", 3), 3);
        Check.due("4: the first column's name is the table's", price(x, "land", 0), 4);
        Check.due("4: a number's column", price(x, "size", 0), 4);
        Check.due("4: a key's column", price(x, "up", 0), 4);
        Check.due("1 is less than 3 and 4", price(x, "town", 1), 1);
        Check.due("1 is less than 4", price(x, "size", 3), 1);
        Check.due("0 is less than 1 and 3", price(x, "town", 2), 0);
        Check.due("0 is less than 4", price(x, "up", 4), 0);
        Check.due("0 is less than 1, the other way", price(x, "towns", 2), 0);
        Check.due("one letter alone", price(x, "a", 4), 0);
        Check.due("one letter and s", price(x, "as", 4), 1);
        Check.due("one letter more is no form", price(x, "ulme", 0), -1);
        Check.due("one letter less is no form", price(x, "ul", 0), -1);
        Check.due("s ahead is no form", price(x, "sulm", 0), -1);
        Check.due("es is no form", price(x, "ulmes", 0), -1);
        Check.due("s behind a table's name is no name", price(x, "towns", 0), -1);
        Check.due("s behind a column's name is no name", price(x, "ups", 0), -1);
        Check.due("s alone", price(x, "s", 0), -1);
        WordsAndRows y = Feeder.house("table a k text ;", "a ss ; a s ; a abcdefgs ; a abcdefgh ;");
        Check.due("s with s behind", price(y, "s", 0), 1);
        Check.due("ss less s", price(y, "ss", 1), 1);
        Check.due("ss and one more", price(y, "sss", 0), 1);
        Check.due("two s more", price(y, "sss", 1), -1);
        Check.due("seven letters and s", price(y, "abcdefg", 2), 1);
        Check.due("eight letters have no s behind", price(y, "abcdefgh", 2), -1);
        Check.due("and are themselves", price(y, "abcdefgh", 3), 0);
    }

    /** "near WORD: 0 a text CELL is it, 2 a text CELL becomes it by one letter put in, left out or changed". */
    private static void priceOfANearWord() {
        WordsAndRows x = Feeder.house("table ulm elm text , l text , n number ;", "ulm a bcd 5 ; ulm ul ulm 5 ; ulm b c 5 ;");
        Check.due("0: it is it", price(x, "near bcd", 0), 0);
        Check.due("0 is less than 2", price(x, "near ulm", 1), 0);
        Check.due("2: changed", price(x, "near bxd", 0), 2);
        Check.due("2: put in", price(x, "near bcxd", 0), 2);
        Check.due("2: left out", price(x, "near bd", 0), 2);
        Check.due("2: s behind is one letter put in", price(x, "near bcds", 0), 2);
        Check.due("2: a letter for a letter", price(x, "near z", 0), 2);
        Check.due("2: one letter and one more", price(x, "near az", 0), 2);
        Check.due("2: two letters less one", price(x, "near u", 1), 2);
        Check.due("two changed", price(x, "near bxx", 0), -1);
        Check.due("two put in", price(x, "near bcdxx", 0), -1);
        Check.due("two left out", price(x, "near m", 1), -1);
        Check.due("one left out at the end", price(x, "near bc", 0), 2);
        Check.due("changed and put in", price(x, "near xcdx", 0), -1);
        Check.due("two change their places", price(x, "near cbd", 0), -1);
        Check.due("no table's name", price(x, "near ulm", 0), -1);
        Check.due("no column's name", price(x, "near elm", 0), -1);
        Check.due("no letters in a number", price(x, "near n", 0), 2);
        Feeder.ask(x, "near elm");
        Check.due("one row of three", x.found(0), 1);
    }

    private static void everyLetterOfEight() {
        WordsAndRows y = Feeder.house("table t k text ;", "t zzzzzzzz ; t aaaaaaaa ;");
        Check.due("the greatest word, its first letter changed", price(y, "near azzzzzzz", 0), 2);
        Check.due("the greatest word, one letter left out", price(y, "near zzzzzzz", 0), 2);
        Check.due("the least of eight letters, its first changed", price(y, "near zaaaaaaa", 1), 2);
        Check.due("the least of eight letters, one left out", price(y, "near aaaaaaa", 1), 2);
        Check.due("the greatest and the least", price(y, "near zzzzzzzz", 1), -1);
        String word = "abcdefgh";
        WordsAndRows x = Feeder.house("table t k text ;", "t " + word + " ; t mnopqrs ;");
        for (int i = 0; i < 8; i++) {
            String head = word.substring(0, i);
            String tail = word.substring(i + 1);
            Check.due("changed at " + i, price(x, "near " + head + "z" + tail, 0), 2);
            Check.due("left out at " + i, price(x, "near " + head + tail, 0), 2);
            Check.due("changed and left out at " + i, price(x, "near " + (head + tail).substring(0, 6) + "y", 0), -1);
            String seven = "mnopqrs";
            Check.due("put in at " + i, price(x, "near " + seven.substring(0, i) + "a" + seven.substring(i), 1), 2);
            if (i < 7) {
                String two = head + "z" + tail.substring(0, 6 - i) + (i == 6 ? "z" : tail.charAt(6 - i) == 'z' ? "y" : "z");
                Check.due("two changed, one at " + i, price(x, "near " + two, 0), -1);
            }
        }
    }

    /** "over N (under N): 1 a number CELL is above (below) N". */
    private static void priceOfANumber() {
        WordsAndRows x = Feeder.house("table a m number , n number , k text , up a ;", "a 0 9999 x none ; a 5 5 y 0 ;");
        Check.due("9999 is above 9998", price(x, "over 9998", 0), 1);
        Check.due("9999 is not above itself", price(x, "over 9999", 0), -1);
        Check.due("0 is below 1", price(x, "under 1", 0), 1);
        Check.due("0 is not below itself", price(x, "under 0", 0), -1);
        Check.due("5 is above 4", price(x, "over 4", 1), 1);
        Check.due("5 is not above 5", price(x, "over 5", 1), -1);
        Check.due("5 is not above 6, a key no number", price(x, "over 6", 1), -1);
        Check.due("5 is below 6", price(x, "under 6", 1), 1);
        Check.due("5 is not below 5: a key to row 0 is no number", price(x, "under 5", 1), -1);
    }

    /** "TIES .. at the PRICE 1 + n / 3, cut". */
    private static void priceOfATie() {
        WordsAndRows x = Feeder.house("table a k text ; table b to a ;", "a x ;");
        for (int n = 1; n < 30; n++) {
            Feeder.rows(x, "b 0 ;");
            Check.due("so many point there: " + n, x.tie(1, 0), 1 + n / 3);
            Check.due("for the last, too, and the other way", x.tie(0, n), 1 + n / 3);
            Check.due("so many ties", x.count(9), n);
        }
        for (int row = 29; row > 1; row--) {
            x.hide(0, row, true);
            Check.due("so many of those seen point there: " + (row - 1), x.tie(1, 0), 1 + (row - 1) / 3);
        }
    }

    /** "n being how many SEEN ROWS point there by this COLUMN". */
    private static void pointingByThisColumn() {
        WordsAndRows x = Feeder.house("table a k text ; table b f a , g a ; table c f a ;",
            "a x ; a y ; b 0 1 ; b 0 1 ; b 1 0 ; c 0 ; c 0 ; c 0 ; b none 0 ;");
        Check.due("two by b's f", x.tie(2, 0), 1);
        Check.due("two by b's g", x.tie(4, 0), 1);
        Check.due("three by c's f, which is another column", x.tie(5, 0), 2);
        Check.due("two by b's g to the other", x.tie(3, 1), 1);
        Check.due("one by b's f to the other", x.tie(4, 1), 1);
        Feeder.rows(x, "b 0 none ;");
        Check.due("three by b's f", x.tie(2, 0), 2);
        Check.due("still two by b's g", x.tie(4, 0), 1);
        WordsAndRows y = Feeder.house("table a k text , up a ; table b f a , g a ;", "a x none ; a y 0 ; b 0 0 ; b 0 none ; b 0 none ;");
        Check.due("a row that points there twice: the least of both", y.tie(2, 0), 1);
        Check.due("one that points there once", y.tie(3, 0), 2);
        Check.due("four pairs", y.count(9), 4);
    }

    /** "A JOINING is a set of SEEN ROWS, WIDTH (1 to 5; 4 at first) at most". */
    private static void width() {
        WordsAndRows x = Feeder.house("table a k text , up a ;", "a p none ; a q 0 ; a r 1 ; a s 2 ; a t 3 ; a u 4 ;");
        String[] asks = {"p", "p q", "p r", "p s", "p t", "p u"};
        for (int i = 0; i < asks.length; i++) {
            Feeder.ask(x, asks[i]);
            Check.due("at first four rows at most: " + asks[i], x.count(4), i < 4 ? 1 : 0);
        }
        for (int n = 1; n <= 5; n++) {
            Check.due("width " + n, x.width(n), true);
            for (int i = 0; i < asks.length; i++) {
                Feeder.ask(x, asks[i]);
                Check.due("rows at most " + n + ": " + asks[i], x.count(4), i < n ? 1 : 0);
                Check.due("the set", x.joining(0, 0), i < n ? (2 << i) - 1 : -1);
            }
        }
    }

    /** ".. that hang together by TIES among them, hold all TERMS, and of which none can be left out so that the others do both". */
    private static void noneCanBeLeftOut() {
        WordsAndRows x = Feeder.house("table a k text , l text , f a , g a ;",
            "a p m none none ; a q m 0 none ; a p q 1 none ; a r m 0 1 ; a m m none none ;");
        Feeder.ask(x, "p q");
        int[] sets = {4, 3};
        Check.due("two joinings", x.count(4), 2);
        for (int k = 0; k < 2; k++) Check.due("set " + k, x.joining(k, 0), sets[k]);
        Feeder.ask(x, "p r");
        Check.due("by one tie, or by two from the other p", x.count(4), 2);
        Check.due("the first", x.joining(0, 0), 9);
        Check.due("the second: 2, 1 and 3 without 0", x.joining(1, 0), 14);
        Feeder.ask(x, "q q");
        Check.due("one row for a word asked twice", x.joining(0, 0), 2);
        Check.due("each that has it", x.count(4), 2);
        Feeder.ask(x, "m p");
        Check.due("not with the row that hangs with none", x.count(4), 2);
        Check.due("a row that has both", x.joining(0, 0), 1);
        Check.due("two of which each is needed", x.joining(1, 0), 6);
    }

    private static void noneOfFiveCanBeLeftOut() {
        // 1-0-2-3 hold both words, and 4 hangs with 0 for nothing
        WordsAndRows x = Feeder.house("table a k text , up a ;", "a m none ; a p 0 ; a m 0 ; a q 2 ; a n 0 ; a n 1 ; a n 3 ; a n 2 ;");
        x.width(5);
        Feeder.ask(x, "p q");
        Check.due("four rows, and none with a fifth", x.count(4), 1);
        Check.due("the four", x.joining(0, 0), 15);
        Feeder.ask(x, "p q n");
        // three point to 0, so that a tie to it is at 2
        int[] due = {1 << 5 | 15, 1 << 6 | 15, 1 << 7 | 15, 1 << 4 | 15};
        Check.due("with a fifth that holds another", x.count(4), due.length);
        for (int k = 0; k < due.length; k++) Check.due("the fifth " + k, x.joining(k, 0), due[k]);
    }

    /** "PRICE of a JOINING: the least sum of TIES by which they hang together, and for each TERM the least PRICE at which one of its ROWS HOLDS it." */
    private static void priceOfAJoining() {
        StringBuilder rows = new StringBuilder("a m ;");
        for (String word : new String[] {"aaax", "bbbx", "cccx", "dddx"}) rows.append("b ").append(word).append(" 0 ;");
        for (int i = 0; i < 25; i++) rows.append("b n 0 ;");
        WordsAndRows x = Feeder.house("table a k text ; table b k text , to a ;", rows.toString());
        x.width(5);
        Feeder.ask(x, "near aaaa near bbbb near cccc near dddd");
        Check.due("one joining", x.count(4), 1);
        Check.due("of five rows", x.joining(0, 0), 31);
        Check.due("four ties at 10", x.joining(0, 3), 40);
        Check.due("and four terms at 2", x.joining(0, 1), 48);
        Check.due("looked at", x.looks(MOST, 0), 48);
        Feeder.ask(x, "aaax bbbx");
        Check.due("three rows", x.joining(0, 0), 7);
        Check.due("two ties at 10", x.joining(0, 1), 20);
        WordsAndRows y = Feeder.house("table a k text , f a , g a , h a ;",
            "a p none none none ; a q 0 none none ; a r 1 0 none ; a v 0 none none ; a v 0 none none ; a v 0 none 1 ;");
        // 0-1 at 2 (f: four point to 0), 2-1 at 1, 2-0 at 1 (g)
        Check.due("a tie at 2", y.tie(1, 0), 2);
        Feeder.ask(y, "p q r");
        Check.due("the dearest of three is not needed", y.joining(0, 3), 2);
        WordsAndRows z = Feeder.house("table a k text , f a , g a , h a ;",
            "a p none none none ; a q none 0 none ; a r 1 none 0 ; a v 1 none none ; a v 1 none none ;");
        // 2-1 at 2 (f: three point to 1), 1-0 and 2-0 at 1
        Check.due("another tie at 2", z.tie(2, 1), 2);
        Feeder.ask(z, "p q r");
        Check.due("nor is that one", z.joining(0, 3), 2);
        Feeder.ask(y, "ps q k");
        Check.due("a form, a cell and a column's name", y.joining(0, 1), 2 + 1 + 0 + 4);
        Feeder.ask(y, "v r");
        Check.due("by two columns at 1", y.joining(0, 3), 2);
        Check.due("the next one", y.joining(1, 0), 13);
        Check.due("an odd sum", y.joining(1, 3), 3);
    }

    /** "JOININGS are in order by PRICE, then by how many ROWS, then by the set as bits (ROW 0 lowest), the least first." */
    private static void orderOfJoinings() {
        WordsAndRows x = Feeder.house("table a k text , l text , up a ;",
            "a us vs none ; a u w none ; a w v 1 ; a w vs 1 ; a us v 0 ; a us vs none ; a u v none ; a u w none ; a vs w 7 ;");
        Feeder.ask(x, "u v");
        int[] sets = {1 << 6, 1 << 4, 1 << 1 | 1 << 2, 1, 1 << 5, 1 << 1 | 1 << 3, 1 << 7 | 1 << 8};
        int[] prices = {0, 1, 1, 2, 2, 2, 2};
        Check.due("seven", x.count(4), 7);
        for (int k = 0; k < 7; k++) {
            Check.due("set " + k, x.joining(k, 0), sets[k]);
            Check.due("price " + k, x.joining(k, 1), prices[k]);
        }
        Check.due("no eighth", x.joining(7, 0), -1);
    }

    private static void sets(WordsAndRows x, int... upTo) {
        for (int n = 1; n <= 5; n++) {
            x.width(n);
            Check.due("sets of so many rows at most: " + n, x.looks(MOST, 2), upTo[Math.min(n, upTo.length) - 1]);
        }
    }

    /** "LOOKS: all sets of SEEN ROWS that hang together, WIDTH at most". */
    private static void looksAtAllSets() {
        String[] rows = {
            "a m none none ; a m 0 none ; a m 0 none ; a m 0 none ; a m 0 none ; a m 0 none ;",
            "a m none none ; a m none none ; a m 0 none ; a m 1 none ; a m 2 1 ;",
            "a m none none ; a m none none ; a m 0 none ; a m 1 none ; a m 2 none ; a m 3 none ;",
            "a m none none ; a m none none ; a m none none ; a m 0 none ; a m 1 none ; a m 2 none ;",
            "a m none none ; a m 0 none ; a m 1 none ; a m 2 0 ;",
            "a m none none ;"};
        int[][] due = {{6, 11, 21, 31, 36}, {5, 9, 12, 14, 15}, {6, 10, 12}, {6, 9}, {4, 8, 12, 13}, {1}};
        for (int i = 0; i < rows.length; i++) {
            WordsAndRows x = Feeder.house("table a k text , f a , g a ;", rows[i]);
            Feeder.ask(x, "m");
            sets(x, due[i]);
        }
        WordsAndRows hub = Feeder.house("table a k text ; table h p a , q a , r a , s a ;", "a m ; a m ; a m ; a m ; h 0 1 2 3 ;");
        Feeder.ask(hub, "m");
        sets(hub, 5, 9, 15, 19, 20);
        hub.hide(0, 4, true);
        sets(hub, 4);
        hub.hide(0, 4, false);
        hub.hide(0, 0, true);
        sets(hub, 4, 7, 10, 11);
    }

    /** Each set of rows tried by itself, in houses of ten rows that point to two ahead of them, or to none. */
    private static void looksAtNoOtherSets() {
        long chance = 7;
        for (int house = 0; house < 24; house++) {
            StringBuilder rows = new StringBuilder();
            for (int row = 0; row < 10; row++) {
                rows.append("a m");
                for (int key = 0; key < 2; key++) {
                    chance = (chance * 25214903917L + 11) & (1L << 48) - 1;
                    int to = (int) (chance >> 20) % (row + 4);
                    rows.append(' ').append(to < row ? String.valueOf(to) : "none");
                }
                rows.append(" ;");
            }
            WordsAndRows x = Feeder.house("table a k text , f a , g a ;", rows.toString());
            Feeder.ask(x, "m");
            int[] tied = new int[10];
            for (int a = 0; a < 10; a++) for (int b = 0; b < a; b++) if (x.tie(a, b) > 0) {
                tied[a] |= 1 << b;
                tied[b] |= 1 << a;
            }
            int[] upTo = new int[5];
            for (int set = 1; set < 1024; set++) {
                for (int n = Integer.bitCount(set); n <= 5 && hangs(set, tied); n++) upTo[n - 1]++;
            }
            sets(x, upTo);
        }
    }

    private static boolean hangs(int set, int[] tied) {
        int reached = Integer.lowestOneBit(set);
        for (int again = 0; again < 10; again++) {
            for (int row = 0; row < 10; row++) if ((reached >> row & 1) != 0) reached |= tied[row] & set;
        }
        return reached == set;
    }

    /** ".. behind the first n of them: the least PRICE of a JOINING among them"; "(NONE: all were looked at ..)". */
    private static void looksBehindTheLast() {
        WordsAndRows x = Feeder.house("table a k text , up a ;", "a ps none ; a q 0 ; a p 1 ;");
        Feeder.ask(x, "p q");
        // 1 2 4, 3 6, 7: the joinings are 3 at 2 and 6 at 1
        int[] least = {-1, -1, -1, -1, 2, 1, 1, 1};
        int[] bounds = {0, 0, 0, 1, 1, 2, -1, -1};
        for (int n = 0; n < 8; n++) {
            Check.due("least behind " + n, x.looks(n, 0), least[n]);
            Check.due("bound behind " + n, x.looks(n, 1), bounds[n]);
            Check.due("sets behind " + n, x.looks(n, 2), Math.min(n, 6));
        }
        Check.due("least behind all", x.looks(MOST, 0), 1);
        Check.due("bound behind all", x.looks(MOST, 1), -1);
        Check.due("sets behind all", x.looks(MOST, 2), 6);
        x.width(1);
        Check.due("no bound behind the last of one row", x.looks(3, 1), -1);
        Check.due("a bound ahead of it", x.looks(2, 1), 0);
        x.width(2);
        Check.due("no bound behind the last of two rows", x.looks(5, 1), -1);
        Check.due("a bound ahead of that", x.looks(4, 1), 1);
    }

    /** "BOUND: .. (s - 1) * the least PRICE of a TIE, and for each TERM the least PRICE at which some SEEN ROW HOLDS it, s being how many ROWS the next set has." */
    private static void bound() {
        // by f three point to 0 (at 2), by g one points to 1 (at 1): the least is neither the first nor the last
        WordsAndRows x = Feeder.house("table a k text , f a , g a ;",
            "a p none none ; a q 0 none ; a ps 0 1 ; a w 0 none ; a qs none none ;");
        Feeder.ask(x, "ps k");
        // the rows that hold ps: 0 at 1, 2 at 0; k: all at 4
        int single = 5;
        Check.due("single rows", x.looks(0, 1), 4);
        Check.due("the last single row", x.looks(single - 1, 1), 4);
        Check.due("pairs", x.looks(single, 1), 4 + 1);
        Check.due("the last pair", x.looks(single + 3, 1), 4 + 1);
        Check.due("threes", x.looks(single + 4, 1), 4 + 2);
        Feeder.ask(x, "q a");
        // q: 1 at 0, 4 at 1; a: 3
        Check.due("the least at which some row holds it", x.looks(0, 1), 3);
        Feeder.ask(x, "a zz");
        for (int n = 0; n < 12; n++) Check.due("a term nowhere", x.looks(n, 1), -1);
        Feeder.ask(x, "zz a k");
        Check.due("nor with two others", x.looks(0, 1), -1);
        Feeder.ask(x, "a k qs ps");
        Check.due("four terms: 3, 4, 0 and 0", x.looks(0, 1), 7);
        Feeder.ask(x, "k k k k");
        Check.due("four terms at 4", x.looks(single, 1), 16 + 1);
        Feeder.ask(x, "k");
        Check.due("then one alone", x.looks(0, 1), 4);
        WordsAndRows y = Feeder.house("table a k text ;", "a p ; a q ;");
        Feeder.ask(y, "a k");
        Check.due("a bound for single rows where there is no tie", y.looks(0, 1), 7);
        Check.due("behind one of two", y.looks(1, 1), 7);
        Check.due("no tie for more rows", y.looks(2, 1), -1);
        WordsAndRows z = new WordsAndRows();
        Feeder.ask(z, "p");
        Check.due("no row at all: all were looked at", z.looks(0, 1), -1);
        Check.due("none was", z.looks(0, 2), 0);
    }

    private static void boundOfWhatIsSeen() {
        WordsAndRows x = Feeder.house("table a k text , f a , g a ;", "a p none none ; a ps 0 none ; a v 0 1 ; a v 0 none ; a v 0 none ;");
        Feeder.ask(x, "p");
        // five single rows, then pairs: 0-1, 0-2, 0-3, 0-4 at 2, 1-2 at 1
        Check.due("the least tie", x.looks(5, 1), 1);
        x.hide(0, 1, true);
        Check.due("the least of those seen", x.looks(4, 1), 2);
        x.hide(0, 2, true);
        Check.due("two point there", x.looks(3, 1), 1);
        x.hide(0, 2, false);
        x.hide(0, 1, false);
        x.hide(0, 0, true);
        Check.due("the word at 1 is the least of those seen", x.looks(0, 1), 1);
        Check.due("with a tie at 1", x.looks(4, 1), 2);
        x.hide(0, 1, true);
        Check.due("a term that no row seen holds", x.looks(0, 1), -1);
    }

    // ---- section 3

    /** "SHAPE of a JOINING: .. for each TERM the TABLE of the ROW that HOLDS it at the least PRICE (of equal ones the first ROW)." */
    private static void shapeAndItsQuestion() {
        WordsAndRows x = Feeder.house("table a k text , l text ; table b k text , l text , to a ;",
            "a us m ; b u n 0 ; a u m ; b us n 1 ; a us m ; b us n 2 ;");
        Feeder.ask(x, "m n u");
        Check.due("three joinings", x.count(4), 3);
        int[] sets = {3, 12, 48};
        int[] places = {1, 2, 4};
        int[] questions = {0, 1, 1};
        for (int k = 0; k < 3; k++) {
            Check.due("set " + k, x.joining(k, 0), sets[k]);
            Check.due("u in " + k, x.place(k, 2), places[k]);
            Check.due("question of " + k, x.joining(k, 2), questions[k]);
        }
        Check.due("price with u at the least", x.joining(0, 1), 1);
        Check.due("price with it at 1", x.joining(2, 1), 2);
        Check.due("in order by the first joining of each", x.asked(1, 1), 1);
        Check.due("counts", x.asked(0, 0) * 10 + x.asked(1, 0), 12);
        Check.due("the row that holds it at the least price, though a later one", Feeder.sentence(x, 0), "a , b : m of a , n of b , u of b");
        Check.due("of equal ones the first", Feeder.sentence(x, 1), "a , b : m of a , n of b , u of a");
    }

    /** "SENTENCE of a QUESTION: for each ROW, by TABLES, the NAME ..; one blank between all tokens." */
    private static void sentence() {
        WordsAndRows x = Feeder.house("table zz k text , n number ; table a k text , to zz ;",
            "zz p 1000 ; a q 0 ; a r 0 ; zz s 0 ; zz t 9999 ; zz v 10 ;");
        Feeder.ask(x, "q p r");
        String sentence = "zz , a , a : q of a , p of zz , r of a";
        Check.due("its length, before a sign of it is asked", x.asked(0, 4), sentence.length());
        Check.due("by tables, not by names or rows", Feeder.sentence(x, 0), sentence);
        String[] asks = {"over 9998", "under 1", "over 1000", "over 0100", "under 0010", "over 0999", "under 9", "near ss", "s"};
        String[] told = {"over 9998", "under 1", "over 1000", "over 100", "under 10", "over 999", "under 9", "near ss", "s"};
        for (int i = 0; i < asks.length; i++) {
            Feeder.ask(x, asks[i]);
            Check.due("told: " + asks[i], Feeder.sentence(x, 0), "zz : " + told[i] + " of zz");
            Check.due("signs of: " + asks[i], x.asked(0, 4), ("zz : " + told[i] + " of zz").length());
        }
        Feeder.ask(x, "zz");
        Check.due("a table's name as a term", Feeder.sentence(x, 0), "zz : zz of zz");
    }

    /** "A QUESTION that is read: the one of that SHAPE (NAMES ahead of the colon in any order; TERMS just those of the ASK, in order)." */
    private static void questionThatIsRead() {
        WordsAndRows x = Feeder.house("table a k text ; table b k text , to a ; table c k text , to b ;", "a p ; b q 0 ; c r 0 ; b p none ; c p none ;");
        Feeder.ask(x, "p r");
        Check.due("one joining", x.count(4), 1);
        for (String names : new String[] {"a,b,c", "a,c,b", "b,a,c", "b,c,a", "c,a,b", "c,b,a"}) {
            Check.due("in any order: " + names, Feeder.question(x, names + ":p of a,r of c"), 0);
        }
        String[] none = {"a,b:p of a,r of c", "a,b,b:p of a,r of c", "a,b,c,c:p of a,r of c", "a,b,c:p of b,r of c", "a,b,c:p of a,r of b",
            "a,b,c:r of c,p of a", "a,b,c:p of a", "a,b,c:p of a,r of c,r of c", "a,b,c:near p of a,r of c", "a,b,c:p of a,rs of c",
            "a,b,c:q of a,r of c", "a,b,c:p of a,over 5 of c"};
        for (String text : none) Check.due("none such: " + text, Feeder.question(x, text), -1);
        Feeder.ask(x, "p");
        Check.due("three questions", x.count(5), 3);
        Check.due("the first", Feeder.question(x, "a:p of a"), 0);
        Check.due("the second", Feeder.question(x, "b:p of b"), 1);
        Check.due("the third", Feeder.question(x, "c:p of c"), 2);
        x.hide(0, 3, true);
        Check.due("not of rows that are not seen", Feeder.question(x, "b:p of b"), -1);
        Check.due("so that the third is the second", Feeder.question(x, "c:p of c"), 1);
        Feeder.ask(x, "zz");
        Check.due("no joining, no question", Feeder.question(x, "a:zz of a"), -1);
    }

    // ---- section 4

    /** "PARTS: of the WORDS that are text CELLS of ROWS in JOININGS and no TERM (as a WORD) that for which the greater number .. is the least; of equal ones the first in the order of letters". */
    private static void parts() {
        WordsAndRows x = Feeder.house("table t k text , l text ;", "t b x ; t b y ; t c y ; t c y ; t d z ;");
        Feeder.ask(x, "t");
        // b 2 of 5, c 2, d 1, x 1, y 3, z 1: greater 3 for b, c and y
        Check.due("the first of equal ones", x.parts(0), Feeder.code("b"));
        Check.due("the greater number", x.parts(1), 3);
        x.hide(0, 0, true);
        Check.due("of rows in joinings alone", x.parts(0), Feeder.code("c"));
        Check.due("two of four", x.parts(1), 2);
        x.hide(0, 0, false);
        Feeder.ask(x, "t b");
        Check.due("b is a term", x.parts(0), Feeder.code("x"));
        Check.due("one of two", x.parts(1), 1);
        Feeder.ask(x, "d z");
        Check.due("all words are terms", x.parts(0), -1);
        Check.due("no greater number", x.parts(1), -1);
        Feeder.ask(x, "d");
        Check.due("one joining", x.parts(0), Feeder.code("z"));
        Check.due("all of one", x.parts(1), 1);
        Feeder.ask(x, "zzz");
        Check.due("no joining", x.parts(0), -1);
        WordsAndRows y = Feeder.house("table t k text ;", "t zb ; t zab ; t za ; t zaaaaaaa ; t zabaaaaa ;");
        Feeder.ask(y, "t");
        Check.due("a shorter one ahead of a longer one that begins with it", y.parts(0), Feeder.code("za"));
        y.hide(0, 2, true);
        Check.due("then by letters, however long", y.parts(0), Feeder.code("zaaaaaaa"));
        y.hide(0, 3, true);
        Check.due("again a shorter one", y.parts(0), Feeder.code("zab"));
        y.hide(0, 1, true);
        Check.due("a longer one ahead of a shorter one", y.parts(0), Feeder.code("zabaaaaa"));
        WordsAndRows z = Feeder.house("table t k text , l text ;", "t m m ; t m n ; t n o ;");
        Feeder.ask(z, "t");
        Check.due("a word twice in a row counts once", z.parts(1), 2);
        Check.due("the first of those two of three", z.parts(0), Feeder.code("m"));
    }

    /** "LEFT OUT, if there is no JOINING: the least set of TERMS (not all) without which there is one; of as many the first in order (as bits the least)." */
    private static void leftOut() {
        WordsAndRows x = Feeder.house("table a k text , l text ;", "a p q ; a r s ; a p r ;");
        String[] asks = {"p", "p q", "zz", "zz zz", "zz p", "p zz", "q r", "p q r", "r q p", "q s r", "p q r s", "s r q p", "zz p q r",
            "zz q s p", "p zz yy xx", "zz yy xx ww"};
        int[] due = {-1, -1, -1, -1, 1, 2, 1, 2, 1, 1, 3, 3, 5, 5, 14, -1};
        for (int i = 0; i < asks.length; i++) {
            Feeder.ask(x, asks[i]);
            Check.due("left of: " + asks[i], x.left(), due[i]);
        }
        WordsAndRows y = Feeder.house("table a k text , up a ;", "a p none ; a q 0 ; a r 1 ;");
        Feeder.ask(y, "p r");
        Check.due("there is a joining", y.left(), -1);
        y.width(2);
        Check.due("none so narrow", y.left(), 1);
        y.width(3);
        y.hide(0, 1, true);
        Check.due("none without the row between", y.left(), 1);
        y.hide(0, 2, true);
        Check.due("the one that is seen stays", y.left(), 2);
        y.hide(0, 0, true);
        Check.due("none helps", y.left(), -1);
    }

    /** "CHOSEN: how often the SHAPE of a QUESTION was chosen, under this ASK or another one (as TABLES with how many ROWS alone)". */
    private static void chosen() {
        WordsAndRows x = Feeder.house("table a k text , up a ; table b k text , to a ;", "a p none ; a q 0 ; b r 1 ; b p none ; b q 0 ;");
        Feeder.ask(x, "p");
        Check.due("a : and b :", x.count(5), 2);
        Check.due("b chosen", x.choose(1), 1);
        Check.due("a is another shape", x.asked(0, 2), 0);
        Feeder.ask(x, "q r");
        Check.due("a , b is another shape than b", x.asked(0, 2), 0);
        Check.due("a , b chosen", x.choose(0), 1);
        Feeder.ask(x, "p q");
        Check.due("a , a, then a , b", Feeder.sentence(x, 0), "a , a : p of a , q of a");
        Check.due("a , a is another shape", x.asked(0, 2), 0);
        Check.due("a , b under another ask", x.asked(1, 2), 1);
        Check.due("chosen again there", x.choose(1), 2);
        Feeder.ask(x, "r q");
        Check.due("counted for all", x.asked(0, 2), 2);
        Feeder.ask(x, "r p");
        Check.due("a , a , b is another shape", x.asked(0, 2), 0);
        Check.due("chosen", x.choose(0), 1);
        Feeder.ask(x, "b");
        Check.due("b stays chosen once", x.asked(0, 2), 1);
        x.person(3);
        Check.due("for another person, too", x.asked(0, 2), 1);
        x.hide(3, 3, true);
        Check.due("with other rights, too", x.asked(0, 2), 1);
        Feeder.rows(x, "b z none ;");
        Check.due("with more rows, too", x.choose(0), 2);
    }

    /** "RANK: QUESTIONS in order by CHOSEN, the most first, of equal ones as they are." */
    private static void rank() {
        WordsAndRows x = Feeder.house("table a k text ; table b k text ; table c k text ; table d k text ;", "a p ; b p ; c p ; d p ;");
        Feeder.ask(x, "p");
        ranks(x, 0, 1, 2, 3);
        x.choose(3);
        ranks(x, 1, 2, 3, 0);
        x.choose(1);
        ranks(x, 2, 0, 3, 1);
        x.choose(3);
        ranks(x, 2, 1, 3, 0);
        x.choose(1);
        x.choose(1);
        ranks(x, 2, 0, 3, 1);
        x.choose(2);
        x.choose(0);
        ranks(x, 2, 0, 3, 1);
        x.choose(2);
        x.choose(2);
        ranks(x, 3, 0, 1, 2);
    }

    private static void ranks(WordsAndRows x, int... due) {
        for (int q = 0; q < due.length; q++) Check.due("rank of " + q, x.asked(q, 3), due[q]);
    }

    /** "MEANT: asks with a JOINING that was meant are kept (40 at most): how many have it among the first three JOININGS (1), at all (2)." */
    private static void meant() {
        WordsAndRows x = Feeder.house("table a k text ;", "a p ; a p ; a p ; a p ; a p ; a q ;");
        Feeder.ask(x, "p");
        int[] first = {1, 2, 3, 3, 3, 3};
        int[] all = {1, 2, 3, 4, 5, 5};
        for (int row = 0; row < 6; row++) {
            Check.due("meant " + row, x.meant(1 << row), row);
            Check.due("among the first three", x.judged(1), first[row]);
            Check.due("at all", x.judged(2), all[row]);
        }
        for (int i = 6; i < 39; i++) Check.due("meant in vain " + i, x.meant(32), i);
        Check.due("the fortieth", x.meant(1), 39);
        Check.due("no more, however it is", x.meant(32), -1);
        Check.due("nor one that is found", x.meant(1), -1);
        Feeder.ask(x, "q");
        Check.due("nor under another ask", x.meant(32), -1);
        Check.due("40 are there", x.judged(0), 40);
        Check.due("four among the first three", x.judged(1), 4);
        Check.due("six at all", x.judged(2), 6);
        Feeder.tables(x, "table a k text ;");
        Feeder.rows(x, "a p ;");
        Feeder.ask(x, "p");
        Check.due("behind new tables there is room", x.meant(1), 0);
    }

    // ---- section 5

    /** "RIGHTS: a ROW is hidden from a PERSON or not (not at first)." */
    private static void rights() {
        WordsAndRows x = Feeder.house("table a k text ;", "a p ; a q ;");
        for (int p = 0; p < 4; p++) {
            x.person(p);
            Check.due("not at first", x.count(2), 2);
        }
        x.hide(1, 0, true);
        x.hide(2, 1, true);
        x.hide(3, 0, true);
        x.hide(3, 1, true);
        int[] seen = {3, 2, 1, 0};
        for (int p = 0; p < 4; p++) {
            x.person(p);
            Check.due("row 0 for " + p, x.row(0, 2), seen[p] & 1);
            Check.due("row 1 for " + p, x.row(1, 2), seen[p] >> 1);
        }
        Feeder.rows(x, "a r ;");
        Check.due("a row told later is seen", x.row(2, 2), 1);
        Check.due("it alone", x.count(2), 1);
    }

    // ---- section 6

    /** "TIES NOT TOLD: of a text COLUMN to a text COLUMN of another TABLE, each of whose CELLS in SEEN ROWS is different there, so that each CELL of the first in SEEN ROWS is one of them (one ROW at least in each)". */
    private static void offered() {
        offers("one row each", "a x ; b x ;", 4, 80);
        offers("of one letter", "a a ; b a ; a a ;", 4);
        offers("another cell", "a x ; b y ;");
        offers("another cell than one letter", "a a ; b x ;");
        offers("no row in the other", "a x ;");
        offers("no row in the first", "b x ;");
        offers("no row at all", "");
        offers("one that is not there", "a x ; a y ; b x ;", 80);
        offers("all are there", "a x ; a y ; b y ; b z ; b x ;", 4);
        offers("not different there, either way", "a x ; a x ; b x ; b x ;");
        offers("different in one of them", "a x ; a x ; b x ;", 4);
        WordsAndRows x = Feeder.house("table a k text , l text , n number ; table b n number , up b , k a ;", "a x x 5 ; b 5 none 0 ;");
        Check.due("no numbers, no keys, not in one table", x.count(7), 0);
        WordsAndRows y = Feeder.house("table a k text ; table b k text ;", "a x ; a x ; b x ; b x ;");
        Check.due("neither has different cells", y.count(7), 0);
        y.hide(0, 3, true);
        Check.due("in those seen the other has", y.offered(0), 4);
        Check.due("it alone", y.count(7), 1);
        y.hide(0, 1, true);
        Check.due("then both", y.count(7), 2);
        y.hide(0, 2, true);
        Check.due("no row of the other is seen", y.count(7), 0);
    }

    private static void offers(String what, String rows, int... due) {
        WordsAndRows x = Feeder.house("table a k text ; table b k text ;", rows);
        Check.due(what, x.count(7), due.length);
        for (int i = 0; i < due.length; i++) Check.due(what + ", " + i, x.offered(i), due[i]);
        Check.due(what + ", no more", x.offered(due.length), -1);
    }

    /** "OFFERED, in order by TABLE, COLUMN, TABLE, COLUMN." */
    private static void offeredInOrder() {
        WordsAndRows x = Feeder.house("table a n number , k text ; table b k text , l text ; table c k text , m number , n number , l text ;",
            "c x 5 5 x ; b x x ; a 5 x ;");
        int[] columns = {1, 4, 5, 8, 11};
        int i = 0;
        for (int from : columns) {
            for (int to : columns) {
                if (from / 4 == to / 4) continue;
                Check.due("in order " + i, x.offered(i), from * 20 + to);
                i++;
            }
        }
        Check.due("so many", x.count(7), i);
        Check.due("no more", x.offered(i), -1);
    }

    /** "One that is LET ties each ROW to each ROW of the other TABLE whose CELL there is the same, for all, from then on (also if it would not be OFFERED any more)." */
    private static void lets() {
        WordsAndRows x = Feeder.house("table a k text , l text ; table b k text , l text ;", "a x m ; a x n ; b x o ; b y x ;");
        Check.due("a's k to b's k", x.offered(0), 4);
        Check.due("no tie before", x.tie(0, 2), -1);
        Check.due("let", x.lets(0), true);
        int[][] ties = {{0, 2, 3}, {2, 0, 3}, {1, 2, 3}, {0, 1, -1}, {0, 3, -1}, {2, 3, -1}};
        for (int[] tie : ties) Check.due("tie of " + tie[0] + " and " + tie[1], x.tie(tie[0], tie[1]), tie[2]);
        Check.due("two pairs", x.count(9), 2);
        x.person(3);
        Check.due("for all", x.tie(0, 2), 3);
        Feeder.rows(x, "a y p ; a z p ; b z p ; b z p ; b x p ;");
        Check.due("not offered any more", x.count(7), 0);
        Check.due("from then on: a new row of the first", x.tie(4, 3), 3);
        Check.due("to each whose cell is the same", x.tie(5, 6), 3);
        Check.due("and the other one", x.tie(5, 7), 3);
        Check.due("a new row of the other", x.tie(0, 8), 3);
        Check.due("let still", x.count(8), 1);
        Check.due("none to be let", x.lets(0), false);
        x.hide(3, 2, true);
        Check.due("not with a row that is not seen", x.tie(0, 2), -1);
    }

    /** "LET (20 at most)". */
    private static void twentyLet() {
        StringBuilder tables = new StringBuilder();
        StringBuilder rows = new StringBuilder();
        for (String name : new String[] {"a", "b", "c"}) {
            tables.append("table ").append(name).append(" k text,l text,m text;");
            rows.append(name).append(" x x x;");
        }
        WordsAndRows x = Feeder.house(tables.toString(), rows.toString());
        Check.due("so many are offered", x.count(7), 54);
        for (int i = 53; i > 33; i--) Check.due("let " + i, x.lets(i), true);
        Check.due("20 are let", x.count(8), 20);
        for (int i = 33; i >= 0; i--) Check.due("no more: " + i, x.lets(i), false);
        Check.due("20 still", x.count(8), 20);
        // the last 20 are of c's to a's and b's, and of b's l and m to others
        Check.due("b and c", x.tie(1, 2), 3);
        Check.due("a and c", x.tie(0, 2), 3);
        x.hide(0, 2, true);
        x.hide(0, 1, true);
        Check.due("nothing is offered of one table", x.lets(0), false);
        Feeder.tables(x, tables.toString());
        Feeder.rows(x, rows.toString());
        Check.due("behind new tables there is room", x.lets(53), true);
    }
}
