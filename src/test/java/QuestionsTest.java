/** Promises 16, 17, 18, 21, 22 and 23: asked, said, choose, near, meant, judged; and what question (6) reads back. */
public final class QuestionsTest {
    private static final int[] STRANGE = {Integer.MIN_VALUE, -2, -1, 64, 1000000, Integer.MAX_VALUE};

    public static void main(String[] args) {
        asked();
        sentences();
        longestSentence();
        readBack();
        chosenAndRank();
        chosenByTablesAlone();
        near();
        meant();
        fortyMeant();
        manyQuestions();
        Check.end();
    }

    private static WordsAndRows bills() {
        return Feeder.house("table person name text , town text ; table bill who person , day number , sum number ;",
            "person marta ulm ; person anton bonn ; bill 0 610 45 ; bill 1 610 200 ; bill 0 703 150 ; bill none 1 1 ;");
    }

    private static void asked() {
        WordsAndRows x = bills();
        for (int what = 0; what < 5; what++) Check.due("no ask", x.asked(0, what), -1);
        Feeder.ask(x, "bill");
        Check.due("one question", x.count(5), 1);
        Check.due("of four joinings", x.asked(0, 0), 4);
        Check.due("the first of which is 0", x.asked(0, 1), 0);
        Feeder.ask(x, "name over 600");
        // rows that hold the name at 4 with bills over 600: 1 + 4 + 1 each
        Check.due("three joinings", x.count(4), 3);
        Check.due("of one question", x.asked(0, 0), 3);
        WordsAndRows y = Feeder.house("table a k text ; table b k text ;", "a xs ; b x ; a x ; a xs ; b xs ;");
        Feeder.ask(y, "x");
        Check.due("two questions", y.count(5), 2);
        // joinings: 1 (b), 2 (a) at 0, then 0 (a), 3 (a), 4 (b) at 1
        Check.due("the first is b's", y.asked(0, 0), 2);
        Check.due("its first joining", y.asked(0, 1), 0);
        Check.due("the second is a's", y.asked(1, 0), 3);
        Check.due("its first joining", y.asked(1, 1), 1);
        for (int k = 0; k < 5; k++) Check.due("question of " + k, y.joining(k, 2), k == 0 || k == 4 ? 0 : 1);
        for (int n : STRANGE) {
            Check.due("no question " + n, y.asked(n, 0), -1);
            Check.due("no what " + n, y.asked(0, n), -1);
        }
        Check.due("no question 2", y.asked(2, 0), -1);
        Check.due("no what 5", y.asked(0, 5), -1);
    }

    private static void sentences() {
        WordsAndRows x = bills();
        Check.due("no ask", x.said(0, 0), -1);
        Feeder.ask(x, "near marte over 0100");
        String sentence = "person , bill : near marte of person , over 100 of bill";
        Check.due("near and over", Feeder.sentence(x, 0), sentence);
        Check.due("its length", x.asked(0, 4), sentence.length());
        Check.due("its last sign", x.said(0, sentence.length() - 1), 'l');
        Check.due("behind its end", x.said(0, sentence.length()), -1);
        for (int n : STRANGE) {
            Check.due("no question " + n, x.said(n, 0), -1);
            if (n < 0 || n > 60) Check.due("no sign " + n, x.said(0, n), -1);
        }
        Feeder.ask(x, "under 0000");
        Check.due("nothing is under 0", x.said(0, 0), -1);
        Feeder.ask(x, "under 2");
        Check.due("under", Feeder.sentence(x, 0), "bill : under 2 of bill");
        Feeder.ask(x, "over 0");
        Check.due("zero", Feeder.sentence(x, 0), "bill : over 0 of bill");
        Feeder.ask(x, "under 1050");
        Check.due("a number with zeros in it", Feeder.sentence(x, 0), "bill : under 1050 of bill");
        WordsAndRows y = Feeder.house("table a k text ; table b k text , to a , up b ;", "a x ; b y 0 none ; b z none 0 ; b w 0 1 ;");
        Feeder.ask(y, "y w");
        Check.due("by tables, not by rows", Feeder.sentence(y, 0), "a , b , b : y of b , w of b");
        Check.due("rows of one table", Feeder.sentence(y, 1), "b , b , b : y of b , w of b");
        Check.due("the first again", Feeder.sentence(y, 0), "a , b , b : y of b , w of b");
        Feeder.ask(y, "w x");
        Check.due("another ask, another sentence", Feeder.sentence(y, 0), "a , b : w of b , x of a");
        Feeder.rows(y, "a w ;");
        Check.due("another row, another first question", Feeder.sentence(y, 0), "a , b : w of b , x of a");
    }

    private static void longestSentence() {
        StringBuilder rows = new StringBuilder("abcdefgh zzzzzzzz none ;");
        String[] words = {"zzzzzzya", "zzzzzzyb", "zzzzzzyc", "zzzzzzyd"};
        for (String word : words) rows.append("abcdefgh ").append(word).append(" 0 ;");
        WordsAndRows x = Feeder.house("table abcdefgh k text , up abcdefgh ;", rows.toString());
        x.width(5);
        Feeder.ask(x, "near aazzzzya");
        Check.due("two letters away", x.count(4), 0);
        Feeder.ask(x, "near zzzzzzya near zzzzzzyb near zzzzzzyc near zzzzzzyd");
        String sentence = Feeder.sentence(x, x.count(5) - 1);
        Check.due("one row is near enough to all four", sentence, "abcdefgh : near zzzzzzya of abcdefgh , near zzzzzzyb of abcdefgh"
            + " , near zzzzzzyc of abcdefgh , near zzzzzzyd of abcdefgh");
        Feeder.ask(x, "zzzzzzya zzzzzzyb zzzzzzyc zzzzzzyd");
        Check.due("five rows", Feeder.sentence(x, 0), "abcdefgh , abcdefgh , abcdefgh , abcdefgh , abcdefgh : zzzzzzya of abcdefgh"
            + " , zzzzzzyb of abcdefgh , zzzzzzyc of abcdefgh , zzzzzzyd of abcdefgh");
        Check.due("its length", x.asked(0, 4), 144);
    }

    private static void readBack() {
        WordsAndRows x = Feeder.house("table a k text , n number ; table b k text , to a , up b ;",
            "a x 5 ; b y 0 none ; b z none 0 ; b w 0 1 ; a w 7 ; b x 1 2 ;");
        for (String ask : new String[] {"x", "x w", "y w", "near xx over 4", "w under 8 near y", "b x", "k", "to w"}) {
            Feeder.ask(x, ask);
            for (int q = 0; q < x.count(5); q++) {
                Check.due("read back " + ask + ", " + q, Feeder.question(x, Feeder.sentence(x, q)), q);
            }
        }
    }

    private static void chosenAndRank() {
        WordsAndRows x = Feeder.house("table a k text ; table b k text ; table c k text ;", "a x ; b x ; c x ;");
        Check.due("no ask", x.choose(0), -1);
        Feeder.ask(x, "x");
        Check.due("three questions", x.count(5), 3);
        ranks(x, 0, 1, 2);
        Check.due("choose 2", x.choose(2), 1);
        ranks(x, 1, 2, 0);
        Check.due("choose 1", x.choose(1), 1);
        ranks(x, 2, 0, 1);
        Check.due("choose 2 again", x.choose(2), 2);
        ranks(x, 2, 1, 0);
        for (int n : STRANGE) Check.due("no question " + n, x.choose(n), -1);
        Check.due("no question 3", x.choose(3), -1);
        Check.due("chosen 0", x.asked(0, 2), 0);
        Check.due("chosen 1", x.asked(1, 2), 1);
        Check.due("chosen 2", x.asked(2, 2), 2);
        x.hide(0, 0, true);
        Check.due("under other rights", x.asked(1, 2), 2);
        x.person(1);
        Check.due("for another person", x.asked(2, 2), 2);
        Feeder.ask(x, "c k");
        Check.due("under another ask", x.asked(0, 2), 2);
    }

    private static void ranks(WordsAndRows x, int... due) {
        for (int q = 0; q < due.length; q++) Check.due("rank of " + q, x.asked(q, 3), due[q]);
    }

    private static void chosenByTablesAlone() {
        WordsAndRows x = Feeder.house("table a k text ; table b k text , to a ;", "a x ; b y 0 ; a y ; b x 1 ; b z 1 ; b v 1 ;");
        Feeder.ask(x, "x y");
        Check.due("two questions", x.count(5), 2);
        Check.due("the first", Feeder.sentence(x, 0), "a , b : x of a , y of b");
        Check.due("the second", Feeder.sentence(x, 1), "a , b : x of b , y of a");
        Check.due("choose the first", x.choose(0), 1);
        Check.due("the second has its tables", x.asked(1, 2), 1);
        Check.due("choose the second", x.choose(1), 2);
        Check.due("the first is as it is", x.asked(0, 3), 0);
        Feeder.ask(x, "z v");
        Check.due("other numbers of rows", x.asked(0, 2), 0);
        Feeder.ask(x, "z y");
        Check.due("the same tables under another ask", x.asked(0, 2), 2);
    }

    private static void near() {
        WordsAndRows x = Feeder.house("table a k text , l text , n number ;", "a um ulm 1 ; a elm ulms 2 ; a ula um 3 ; a ul ulx 4 ; a lm xulm 5 ; a lum u 6 ;");
        Check.due("no ask", x.near(0, 0), -1);
        Feeder.ask(x, "ulm near ulm over 3 ulm");
        String[] due = {"elm", "lm", "ul", "ula", "ulms", "ulx", "um", "xulm"};
        for (int i = 0; i < due.length; i++) {
            Check.due("near " + i, x.near(0, i), Feeder.code(due[i]));
            Check.due("near of the fourth term " + i, x.near(3, i), Feeder.code(due[i]));
        }
        Check.due("no more", x.near(0, due.length), -1);
        for (int n : STRANGE) {
            Check.due("no term " + n, x.near(n, 0), -1);
            Check.due("no word " + n, x.near(0, n), -1);
        }
        Check.due("no term 4", x.near(4, 0), -1);
        Check.due("of a near word", x.near(1, 0), -1);
        Check.due("of a number", x.near(2, 0), -1);
        x.hide(0, 1, true);
        Check.due("of rows that are seen", x.near(0, 0), Feeder.code("lm"));
        x.hide(0, 0, true);
        Check.due("in another row, too", x.near(0, 4), Feeder.code("um"));
    }

    private static void meant() {
        WordsAndRows x = Feeder.house("table a k text ;", "a x ; a x ; a x ; a x ; a y ;");
        Check.due("no ask", x.meant(1), -1);
        Feeder.ask(x, "x");
        for (int set : new int[] {0, 32, 33, 1 << 30, 1 << 31, -1, Integer.MAX_VALUE}) Check.due("no set " + set, x.meant(set), -1);
        judged(x, 0, 0, 0);
        Check.due("the first", x.meant(1), 0);
        judged(x, 1, 1, 1);
        Check.due("the third", x.meant(4), 1);
        judged(x, 2, 2, 2);
        Check.due("the fourth", x.meant(8), 2);
        judged(x, 3, 2, 3);
        Check.due("no joining", x.meant(16), 3);
        Check.due("nor of two rows", x.meant(3), 4);
        judged(x, 5, 2, 3);
        x.hide(0, 0, true);
        judged(x, 5, 2, 3);
        Check.due("now the third", x.meant(8), 5);
        judged(x, 6, 3, 4);
        Check.due("a row that is not seen is told", x.meant(1), 6);
        judged(x, 7, 3, 4);
        Feeder.ask(x, "y");
        Check.due("under another ask", x.meant(16), 7);
        judged(x, 8, 4, 5);
        for (int what : new int[] {-1, 3, Integer.MIN_VALUE, Integer.MAX_VALUE}) Check.due("no what " + what, x.judged(what), -1);
    }

    private static void judged(WordsAndRows x, int all, int first, int some) {
        Check.due("judged 0", x.judged(0), all);
        Check.due("judged 1", x.judged(1), first);
        Check.due("judged 2", x.judged(2), some);
    }

    private static void fortyMeant() {
        WordsAndRows x = Feeder.house("table a k text ;", "a x ;");
        Feeder.ask(x, "x");
        for (int i = 0; i < 40; i++) Check.due("meant " + i, x.meant(1), i);
        Check.due("a 41st", x.meant(1), -1);
        judged(x, 40, 40, 40);
    }

    /** More questions than a first list has room for, each found again. */
    private static void manyQuestions() {
        WordsAndRows x = Dense.house("p", "q", "r", "u");
        Feeder.ask(x, "p q r u");
        // each term in each table, but not all four in one: those do not hang together
        Check.due("joinings", x.count(4), 5 * 5 * 5 * 5 - 5);
        Check.due("questions", x.count(5), 620);
        for (int q = 0; q < 620; q += 31) {
            Check.due("joinings of " + q, x.asked(q, 0), 1);
            Check.due("first of " + q, x.asked(q, 1), q);
            Check.due("read back " + q, Feeder.question(x, Feeder.sentence(x, q)), q);
        }
        Feeder.ask(x, "p q r");
        // three of one table hang together by another's row that holds none
        Check.due("joinings of three terms", x.count(4), 120 + 20);
        Check.due("questions of three terms", x.count(5), 140);
        // as bits the most is the one with the last row of e, u, and the other three of d
        Check.due("the last", Feeder.sentence(x, 139), "d , d , d , e : p of d , q of d , r of d");
        Feeder.ask(x, "p");
        Check.due("questions of one term", x.count(5), 5);
    }
}
