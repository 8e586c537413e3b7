import java.util.NoSuchElementException;

/** Counts answers that are not as due. */
final class Check {
    private static int checked = 0;
    private static int wrong = 0;

    private Check() { }

    static void due(String what, long got, long want) {
        checked++;
        if (got != want) {
            wrong++;
            System.out.println(what + " answered " + got + ", due is " + want);
        }
    }

    static void due(String what, boolean got, boolean want) {
        due(what, got ? 1 : 0, want ? 1 : 0);
    }

    static void due(String what, String got, String want) {
        checked++;
        if (!got.equals(want)) {
            wrong++;
            System.out.println(what + " answered '" + got + "', due is '" + want + "'");
        }
    }

    static void noSuchRow(WordsAndRows x, int row, int what) {
        boolean thrown = false;
        try {
            x.row(row, what);
        } catch (NoSuchElementException e) {
            thrown = true;
        }
        due("row(" + row + ", " + what + ") throws NoSuchElementException", thrown, true);
    }

    static int fault(int kind, int place) {
        return kind + 16 * place;
    }

    static void end() {
        System.out.println(wrong == 0 ? checked + " answers are as due" : wrong + " of " + checked + " answers are not as due");
        if (wrong != 0) System.exit(1);
    }
}
