import java.util.Arrays;
import java.util.NoSuchElementException;

/** Words asked of a house of tables, and the least joinings of its rows that hold them all. */
public final class WordsAndRows {
    public static final int NONE = -1;

    private static final int PERSONS = 4;
    private static final int WIDTH_AT_FIRST = 4;
    private static final int MOST_MEANT = 40;
    private static final int FIRST_JOININGS = 3;
    private static final int MOST_LOOKS = 1000000;
    private static final int QUESTION_FAULT = 100000;
    private static final int BYTE = 8;
    private static final int HIGHEST_BYTE = 56;

    private final Tape tape;
    private final Reader reader;
    private final Hits hits;
    private final Ties ties;
    private final Offers offers;
    private final Search search;
    private final Questions questions;
    private final Parting parting;
    private House house;
    private House draftHouse;
    private Terms terms;
    private Terms draftTerms;
    private int asking;
    private int widest;
    /** Of MEANT: how many, among the first JOININGS, at all. */
    private final int[] meantCounts;
    private boolean tiesFresh;
    private boolean hitsFresh;
    private boolean offersFresh;
    private boolean searchFresh;

    public WordsAndRows() {
        tape = new Tape();
        reader = new Reader(tape);
        hits = new Hits();
        ties = new Ties();
        offers = new Offers();
        search = new Search(ties, hits);
        questions = new Questions();
        parting = new Parting();
        house = new House();
        draftHouse = new House();
        terms = new Terms();
        draftTerms = new Terms();
        meantCounts = new int[3];
        widest = WIDTH_AT_FIRST;
    }

    public int feed(long a, long b, long c) {
        feedBytes(a);
        feedBytes(b);
        feedBytes(c);
        return tape.length;
    }

    public int tables() {
        int fault = reader.readTables(draftHouse);
        tape.empty();
        if (fault == 0) {
            beginAnewWithDraft();
        }
        return fault;
    }

    public int rows() {
        int before = house.rowCount;
        int fault = reader.readRows(house);
        tape.empty();
        if (fault != 0) {
            house.keepRows(before);
        } else if (house.rowCount != before) {
            sightChanged();
        }
        return fault;
    }

    public int ask() {
        int fault = reader.readAsk(draftTerms);
        tape.empty();
        if (fault == 0) {
            Terms earlier = terms;
            terms = draftTerms;
            draftTerms = earlier;
            termsChanged();
        }
        return fault;
    }

    public int question() {
        int fault = reader.readQuestion(house, draftTerms);
        tape.empty();
        if (fault != 0) {
            return QUESTION_FAULT + fault;
        }
        if (!searched() || !draftTerms.same(terms)) {
            return NONE;
        }
        return questions.find(reader.shape);
    }

    public boolean width(int n) {
        if (n < 1 || n > Search.WIDEST) {
            return false;
        }
        if (n != widest) {
            widest = n;
            searchFresh = false;
        }
        return true;
    }

    public int row(int row, int what) throws NoSuchElementException {
        if (!house.isTold(row) || what < 0 || what > 2) {
            throw new NoSuchElementException();
        }
        if (what == 0) {
            return house.rowTables[row];
        }
        return what == 1 ? house.rowNumbers[row] : seen() >> row & 1;
    }

    public long cell(int row, int column) {
        if (!isSeen(row)) {
            return NONE;
        }
        switch (house.kindAt(row, column)) {
            case House.NO_COLUMN:
                return NONE;
            case House.TEXT:
                return house.wordAt(row, column);
            case House.NUMBER:
                return house.numberAt(row, column);
            default:
                return house.keyAt(row, column, seen());
        }
    }

    public int holds(int row, int term) {
        if (!isTerm(term) || !isSeen(row)) {
            return NONE;
        }
        freshenHits();
        return hits.priceAt(row, term);
    }

    public int found(int term) {
        if (!isTerm(term)) {
            return NONE;
        }
        freshenHits();
        return Integer.bitCount(hits.holders[term]);
    }

    public int tie(int a, int b) {
        if (!isSeen(a) || !isSeen(b)) {
            return NONE;
        }
        freshenTies();
        int price = ties.priceOf(a, b);
        return price == 0 ? NONE : price;
    }

    public int joining(int k, int what) {
        if (!searched() || !search.has(k)) {
            return NONE;
        }
        switch (what) {
            case 0:
                return search.setOf(k);
            case 1:
                return search.priceOf(k);
            case 2:
                return questions.ofJoining(k);
            case 3:
                return search.tiesOf(k);
            default:
                return NONE;
        }
    }

    public int place(int k, int term) {
        if (!isTerm(term) || !searched() || !search.has(k)) {
            return NONE;
        }
        return hits.holderIn(search.setOf(k), term);
    }

    public int looks(int n, int what) {
        if (n < 0 || n > MOST_LOOKS || !searched()) {
            return NONE;
        }
        switch (what) {
            case 0:
                return search.leastBehind(n);
            case 1:
                return search.boundBehind(n);
            case 2:
                return Math.min(n, search.sets);
            default:
                return NONE;
        }
    }

    public int asked(int question, int what) {
        if (!searched() || !questions.has(question)) {
            return NONE;
        }
        switch (what) {
            case 0:
                return questions.joiningsOf(question);
            case 1:
                return questions.firstOf(question);
            case 2:
                return questions.chosenOf(question);
            case 3:
                return questions.rankOf(question);
            case 4:
                return questions.sentenceLength(question, house, terms);
            default:
                return NONE;
        }
    }

    public int said(int question, int k) {
        if (!searched() || !questions.has(question)) {
            return NONE;
        }
        return questions.sentenceSign(question, k, house, terms);
    }

    public int choose(int question) {
        return searched() && questions.has(question) ? questions.chooseOne(question) : NONE;
    }

    public long parts(int what) {
        if (what < 0 || what > 1 || !searched()) {
            return NONE;
        }
        parting.find(house, terms, search);
        if (parting.word == 0) {
            return NONE;
        }
        return what == 0 ? parting.word : parting.greater;
    }

    public int left() {
        return searched() ? search.leftOut() : NONE;
    }

    public long near(int term, int i) {
        if (!isTerm(term) || terms.kinds[term] != Terms.PLAIN) {
            return NONE;
        }
        return hits.nearWord(house, seen(), terms.values[term], i);
    }

    public int meant(int set) {
        boolean full = meantCounts[0] >= MOST_MEANT;
        if (set == 0 || (set & ~house.told()) != 0 || full || !searched()) {
            return NONE;
        }
        int place = search.placeOf(set);
        if (place != NONE) {
            meantCounts[1] += place < FIRST_JOININGS ? 1 : 0;
            meantCounts[2]++;
        }
        return meantCounts[0]++;
    }

    public int judged(int what) {
        return what >= 0 && what < meantCounts.length ? meantCounts[what] : NONE;
    }

    public boolean person(int person) {
        if (person < 0 || person >= PERSONS) {
            return false;
        }
        int before = seen();
        asking = person;
        if (seen() != before) {
            sightChanged();
        }
        return true;
    }

    public boolean hide(int person, int row, boolean yes) {
        if (person < 0 || person >= PERSONS || !house.isTold(row)) {
            return false;
        }
        int before = seen();
        house.setHidden(person, row, yes);
        if (seen() != before) {
            sightChanged();
        }
        return true;
    }

    public int offered(int i) {
        freshenOffers();
        return offers.codeAt(i);
    }

    public boolean lets(int i) {
        freshenOffers();
        if (!offers.letOne(i)) {
            return false;
        }
        tiesFresh = false;
        searchFresh = false;
        return true;
    }

    public int count(int what) {
        switch (what) {
            case 0:
                return house.tableCount;
            case 1:
                return house.rowCount;
            case 2:
                return Integer.bitCount(seen());
            case 3:
                return terms.count;
            case 4:
                return searched() ? search.joinings : 0;
            case 5:
                return searched() ? questions.size : 0;
            case 6:
                return tape.length;
            case 7:
                freshenOffers();
                return offers.offeredCount;
            case 8:
                return offers.letCount;
            case 9:
                freshenTies();
                return ties.pairs;
            default:
                return NONE;
        }
    }

    private void feedBytes(long bytes) {
        for (int shift = HIGHEST_BYTE; shift >= 0; shift -= BYTE) {
            tape.put((int) (bytes >>> shift & 255));
        }
    }

    private void beginAnewWithDraft() {
        House earlier = house;
        house = draftHouse;
        draftHouse = earlier;
        terms.clear();
        offers.forgetLets();
        questions.forgetChosen();
        Arrays.fill(meantCounts, 0);
        sightChanged();
    }

    private void sightChanged() {
        tiesFresh = false;
        offersFresh = false;
        termsChanged();
    }

    private void termsChanged() {
        hitsFresh = false;
        searchFresh = false;
    }

    private int seen() {
        return house.seenBy(asking);
    }

    private boolean isSeen(int row) {
        return house.isTold(row) && (seen() >> row & 1) != 0;
    }

    private boolean isTerm(int term) {
        return term >= 0 && term < terms.count;
    }

    private void freshenHits() {
        if (!hitsFresh) {
            hits.fill(house, terms, seen());
            hitsFresh = true;
        }
    }

    private void freshenTies() {
        if (!tiesFresh) {
            ties.fill(house, offers, seen());
            tiesFresh = true;
        }
    }

    private void freshenOffers() {
        if (!offersFresh) {
            offers.fill(house, seen());
            offersFresh = true;
        }
    }

    /** Whether there is an ASK; its JOININGS are found and its QUESTIONS listed then. */
    private boolean searched() {
        if (terms.count == 0) {
            return false;
        }
        if (!searchFresh) {
            freshenHits();
            freshenTies();
            search.run(seen(), widest, terms.count);
            questions.fill(house, hits, search, terms.count);
            searchFresh = true;
        }
        return true;
    }

    /** WORDS as numbers: letters in base 27, a being 1, the first the highest; 0 is no WORD. */
    private static final class Words {
        static final int LONGEST = 8;
        static final int BASE = 27;
        static final long TABLE = 10650290L;
        static final long TEXT = 397973L;
        static final long NUMBER = 212302449L;
        static final long NONE_WORD = 286880L;
        static final long NEAR = 279252L;
        static final long OVER = 311436L;
        static final long UNDER = 11438892L;
        static final long OF = 411L;
        static final int LETTER_S = 19;
        static final long[] POWERS = {1L, 27L, 729L, 19683L, 531441L, 14348907L, 387420489L,
            10460353203L, 282429536481L};

        static boolean isReserved(long word) {
            return word == TABLE || word == TEXT || word == NUMBER || word == NONE_WORD
                || word == NEAR || word == OVER || word == UNDER || word == OF;
        }

        static int lengthOf(long word) {
            int length = 0;
            while (length < LONGEST && word >= POWERS[length]) {
                length++;
            }
            return length;
        }

        /** Orders as the letters do: a shorter word stands ahead of a longer one that begins with it. */
        static long orderOf(long word) {
            return word * POWERS[LONGEST - lengthOf(word)];
        }

        static boolean isOtherForm(long a, long b) {
            return a == b * BASE + LETTER_S || b == a * BASE + LETTER_S;
        }

        /** Whether one becomes the other by one letter put in, left out or changed. */
        static boolean isOneLetterApart(long a, long b) {
            int lengthOfA = lengthOf(a);
            int lengthOfB = lengthOf(b);
            if (a == b || Math.abs(lengthOfA - lengthOfB) > 1) {
                return false;
            }
            int longer = Math.max(lengthOfA, lengthOfB);
            for (int i = 0; i < longer; i++) {
                long restOfA = lengthOfA == longer ? without(a, i) : a;
                long restOfB = lengthOfB == longer ? without(b, i) : b;
                if (restOfA == restOfB) {
                    return true;
                }
            }
            return false;
        }

        /** The word without its i-th letter from the end. */
        private static long without(long word, int i) {
            if (i < 0 || i >= LONGEST) {
                return word;
            }
            return word / POWERS[i + 1] * POWERS[i] + word % POWERS[i];
        }
    }

    /** The TAPE, and the token of it that is being looked at. */
    private static final class Tape {
        static final int MOST_SIGNS = 1000;
        static final int LONGEST_NUMBER = 4;
        static final int END = 0;
        static final int WORD = 1;
        static final int NUMBER = 2;
        static final int SIGN = 3;
        static final int NO_TOKEN = 4;

        private final byte[] signs = new byte[MOST_SIGNS];
        private int next;
        int length;
        int kind;
        int place;
        long value;

        void put(int sign) {
            boolean fits = sign == '\n' || sign >= ' ' && sign <= '~';
            if (fits && length < MOST_SIGNS) {
                signs[length++] = (byte) sign;
            }
        }

        void empty() {
            length = 0;
        }

        void rewind() {
            next = 0;
            advance();
        }

        void advance() {
            while (next < length && (signs[next] == ' ' || signs[next] == '\n')) {
                next++;
            }
            place = next;
            value = 0;
            if (next >= length) {
                kind = END;
            } else if (isLetter(signs[next])) {
                takeWord();
            } else if (isDigit(signs[next])) {
                takeNumber();
            } else {
                takeSign();
            }
        }

        boolean isWord(long word) {
            return kind == WORD && value == word;
        }

        boolean isSign(char sign) {
            return kind == SIGN && value == sign;
        }

        boolean isName() {
            return kind == WORD && !Words.isReserved(value);
        }

        private void takeWord() {
            while (next < length && isLetter(signs[next])) {
                value = value * Words.BASE + signs[next] - 'a' + 1;
                next++;
            }
            kind = next - place <= Words.LONGEST ? WORD : NO_TOKEN;
        }

        private void takeNumber() {
            while (next < length && isDigit(signs[next])) {
                value = value * 10 + signs[next] - '0';
                next++;
            }
            kind = next - place <= LONGEST_NUMBER ? NUMBER : NO_TOKEN;
        }

        private void takeSign() {
            value = signs[next];
            kind = value == ',' || value == ':' || value == ';' ? SIGN : NO_TOKEN;
            next++;
        }

        private static boolean isLetter(int sign) {
            return sign >= 'a' && sign <= 'z';
        }

        private static boolean isDigit(int sign) {
            return sign >= '0' && sign <= '9';
        }
    }

    /** What was told: TABLES, their ROWS, and from whom these are hidden. */
    private static final class House {
        static final int MOST_TABLES = 5;
        static final int MOST_COLUMNS = 4;
        static final int MOST_ROWS = 30;
        /** Kinds of COLUMNS; a KEY's kind is the number of its TABLE. */
        static final int TEXT = -1;
        static final int NUMBER = -2;
        static final int NO_COLUMN = -3;

        final long[] tableNames = new long[MOST_TABLES];
        final int[] columnCounts = new int[MOST_TABLES];
        final long[] columnNames = new long[MOST_TABLES * MOST_COLUMNS];
        final int[] kinds = new int[MOST_TABLES * MOST_COLUMNS];
        final int[] rowTables = new int[MOST_ROWS];
        final int[] rowNumbers = new int[MOST_ROWS];
        private final int[] tableRows = new int[MOST_TABLES];
        private final long[] cells = new long[MOST_ROWS * MOST_COLUMNS];
        private final int[] hidden = new int[PERSONS];
        int tableCount;
        int rowCount;

        void clear() {
            tableCount = 0;
            rowCount = 0;
            Arrays.fill(tableRows, 0);
            Arrays.fill(hidden, 0);
        }

        int tableNamed(long name) {
            for (int table = 0; table < tableCount; table++) {
                if (tableNames[table] == name) {
                    return table;
                }
            }
            return NONE;
        }

        boolean hasColumnNamed(int table, long name) {
            for (int column = 0; column < columnCounts[table]; column++) {
                if (columnNames[table * MOST_COLUMNS + column] == name) {
                    return true;
                }
            }
            return false;
        }

        void addTable(long name) {
            if (tableCount < MOST_TABLES) {
                tableNames[tableCount] = name;
                columnCounts[tableCount] = 0;
                tableCount++;
            }
        }

        void addColumn(int table, long name, int kind) {
            int column = columnCounts[table];
            if (column < MOST_COLUMNS) {
                columnNames[table * MOST_COLUMNS + column] = name;
                kinds[table * MOST_COLUMNS + column] = kind;
                columnCounts[table]++;
            }
        }

        /** A CELL of the ROW that is being read: it is told when the ROW is. */
        void putCell(int column, long value) {
            if (rowCount < MOST_ROWS && column >= 0 && column < MOST_COLUMNS) {
                cells[rowCount * MOST_COLUMNS + column] = value;
            }
        }

        void addRow(int table) {
            if (rowCount < MOST_ROWS) {
                rowTables[rowCount] = table;
                rowNumbers[rowCount] = tableRows[table];
                tableRows[table]++;
                rowCount++;
            }
        }

        void keepRows(int count) {
            for (int row = rowCount - 1; row >= count && row >= 0; row--) {
                tableRows[rowTables[row]]--;
                rowCount--;
            }
        }

        int rowNumbered(int table, long number) {
            for (int row = 0; row < rowCount; row++) {
                if (rowTables[row] == table && rowNumbers[row] == number) {
                    return row;
                }
            }
            return NONE;
        }

        boolean isTold(int row) {
            return row >= 0 && row < rowCount;
        }

        int told() {
            return (1 << rowCount) - 1;
        }

        int seenBy(int person) {
            return told() & ~hidden[person];
        }

        void setHidden(int person, int row, boolean yes) {
            hidden[person] = yes ? hidden[person] | 1 << row : hidden[person] & ~(1 << row);
        }

        /** The kind of a CELL; NO_COLUMN: there is none such. */
        int kindAt(int row, int column) {
            if (row < 0 || row >= rowCount || column < 0 || column >= columnCounts[rowTables[row]]) {
                return NO_COLUMN;
            }
            return kinds[rowTables[row] * MOST_COLUMNS + column];
        }

        /** The ROW to which a CELL points, among some; NONE: none. */
        int keyAt(int row, int column, int among) {
            if (kindAt(row, column) < 0) {
                return NONE;
            }
            int other = (int) cells[row * MOST_COLUMNS + column];
            return other >= 0 && (among >> other & 1) != 0 ? other : NONE;
        }

        /** The WORD in a CELL; 0: it is not of text. */
        long wordAt(int row, int column) {
            return kindAt(row, column) == TEXT ? cells[row * MOST_COLUMNS + column] : 0;
        }

        /** The number in a CELL; NONE: it is not of numbers. */
        long numberAt(int row, int column) {
            return kindAt(row, column) == NUMBER ? cells[row * MOST_COLUMNS + column] : NONE;
        }

        boolean hasWord(int row, long word) {
            for (int column = 0; column < MOST_COLUMNS; column++) {
                if (wordAt(row, column) == word) {
                    return true;
                }
            }
            return false;
        }
    }

    /** The TERMS of an ASK, or of a QUESTION that is read. */
    private static final class Terms {
        static final int MOST = 4;
        static final int PLAIN = 0;
        static final int NEAR = 1;
        static final int OVER = 2;
        static final int UNDER = 3;

        final int[] kinds = new int[MOST];
        final long[] values = new long[MOST];
        int count;

        void clear() {
            count = 0;
        }

        void add(int kind, long value) {
            if (count < MOST) {
                kinds[count] = kind;
                values[count] = value;
                count++;
            }
        }

        boolean same(Terms others) {
            if (others == null || others.count != count) {
                return false;
            }
            for (int term = 0; term < count; term++) {
                if (others.kinds[term] != kinds[term] || others.values[term] != values[term]) {
                    return false;
                }
            }
            return true;
        }

        boolean hasPlainWord(long word) {
            for (int term = 0; term < count; term++) {
                if (kinds[term] == PLAIN && values[term] == word) {
                    return true;
                }
            }
            return false;
        }
    }

    /** Reads the TAPE as what is told and asked; every reading answers 0 or its FAULT. */
    private static final class Reader {
        private static final int WRONG_TOKEN = 1;
        private static final int NOT_TOLD = 2;
        private static final int TOLD_ALREADY = 3;
        private static final int NO_ROW = 4;
        private static final int TOO_MANY = 5;
        private static final int PLACES = 16;

        private final Tape tape;
        /** The SHAPE that the last QUESTION told. */
        int shape;

        Reader(Tape tape) {
            this.tape = tape;
        }

        int readTables(House house) {
            house.clear();
            tape.rewind();
            int fault = 0;
            for (int i = 0; i <= House.MOST_TABLES && fault == 0 && tape.kind != Tape.END; i++) {
                fault = readTable(house);
            }
            return fault;
        }

        int readRows(House house) {
            tape.rewind();
            int fault = 0;
            for (int i = 0; i <= House.MOST_ROWS && fault == 0 && tape.kind != Tape.END; i++) {
                fault = readRow(house);
            }
            return fault;
        }

        int readAsk(Terms terms) {
            terms.clear();
            tape.rewind();
            int fault = readTerm(terms);
            for (int i = 0; i < Terms.MOST && fault == 0 && tape.kind != Tape.END; i++) {
                fault = readTerm(terms);
            }
            return fault;
        }

        int readQuestion(House house, Terms terms) {
            terms.clear();
            tape.rewind();
            shape = 0;
            int fault = readShapeRows(house);
            return fault != 0 ? fault : readShapeTerms(house, terms);
        }

        private int readTable(House house) {
            if (!tape.isWord(Words.TABLE)) {
                return faultHere(WRONG_TOKEN);
            }
            if (house.tableCount >= House.MOST_TABLES) {
                return faultHere(TOO_MANY);
            }
            tape.advance();
            if (!tape.isName()) {
                return faultHere(WRONG_TOKEN);
            }
            if (house.tableNamed(tape.value) != NONE) {
                return faultHere(TOLD_ALREADY);
            }
            house.addTable(tape.value);
            return readColumns(house, house.tableCount - 1);
        }

        /** One round more than there may be COLUMNS: the last one always ends in a FAULT. */
        private int readColumns(House house, int table) {
            int fault = 0;
            for (int i = 0; i <= House.MOST_COLUMNS; i++) {
                tape.advance();
                fault = readColumn(house, table);
                if (fault != 0 || !tape.isSign(',')) {
                    break;
                }
            }
            return fault != 0 ? fault : passSign(';');
        }

        private int readColumn(House house, int table) {
            if (!tape.isName()) {
                return faultHere(WRONG_TOKEN);
            }
            if (house.hasColumnNamed(table, tape.value)) {
                return faultHere(TOLD_ALREADY);
            }
            if (house.columnCounts[table] >= House.MOST_COLUMNS) {
                return faultHere(TOO_MANY);
            }
            long name = tape.value;
            tape.advance();
            int kind = NONE;
            if (tape.isName()) {
                kind = house.tableNamed(tape.value);
                if (kind == NONE) {
                    return faultHere(NOT_TOLD);
                }
            } else if (tape.isWord(Words.TEXT)) {
                kind = House.TEXT;
            } else if (tape.isWord(Words.NUMBER)) {
                kind = House.NUMBER;
            } else {
                return faultHere(WRONG_TOKEN);
            }
            house.addColumn(table, name, kind);
            tape.advance();
            return 0;
        }

        private int readRow(House house) {
            int fault = faultOfTableName(house);
            if (fault != 0) {
                return fault;
            }
            if (house.rowCount >= House.MOST_ROWS) {
                return faultHere(TOO_MANY);
            }
            int table = house.tableNamed(tape.value);
            tape.advance();
            for (int column = 0; column < house.columnCounts[table] && fault == 0; column++) {
                fault = readCell(house, table, column);
            }
            if (fault == 0) {
                fault = passSign(';');
            }
            if (fault == 0) {
                house.addRow(table);
            }
            return fault;
        }

        private int readCell(House house, int table, int column) {
            int kind = house.kinds[table * House.MOST_COLUMNS + column];
            long value = tape.value;
            if (kind == House.TEXT) {
                if (!tape.isName()) {
                    return faultHere(WRONG_TOKEN);
                }
            } else if (kind == House.NUMBER || !tape.isWord(Words.NONE_WORD)) {
                if (tape.kind != Tape.NUMBER) {
                    return faultHere(WRONG_TOKEN);
                }
                if (kind != House.NUMBER) {
                    value = house.rowNumbered(kind, tape.value);
                    if (value == NONE) {
                        return faultHere(NO_ROW);
                    }
                }
            } else {
                value = NONE;
            }
            house.putCell(column, value);
            tape.advance();
            return 0;
        }

        private int readTerm(Terms terms) {
            int kind = kindOfTerm();
            if (kind == NONE) {
                return faultHere(WRONG_TOKEN);
            }
            if (terms.count >= Terms.MOST) {
                return faultHere(TOO_MANY);
            }
            if (kind != Terms.PLAIN) {
                tape.advance();
                boolean fits = kind == Terms.NEAR ? tape.isName() : tape.kind == Tape.NUMBER;
                if (!fits) {
                    return faultHere(WRONG_TOKEN);
                }
            }
            terms.add(kind, tape.value);
            tape.advance();
            return 0;
        }

        private int kindOfTerm() {
            if (tape.isWord(Words.NEAR)) {
                return Terms.NEAR;
            }
            if (tape.isWord(Words.OVER)) {
                return Terms.OVER;
            }
            if (tape.isWord(Words.UNDER)) {
                return Terms.UNDER;
            }
            return tape.isName() ? Terms.PLAIN : NONE;
        }

        /** One round more than there may be NAMES: the last one always ends in a FAULT. */
        private int readShapeRows(House house) {
            for (int i = 0; i <= Search.WIDEST; i++) {
                int fault = faultOfTableName(house);
                if (fault != 0) {
                    return fault;
                }
                if (i >= Search.WIDEST) {
                    return faultHere(TOO_MANY);
                }
                shape = Questions.withRow(shape, house.tableNamed(tape.value));
                tape.advance();
                if (!tape.isSign(',')) {
                    break;
                }
                tape.advance();
            }
            return passSign(':');
        }

        /** One round more than there may be TERMS: the last one always ends in a FAULT. */
        private int readShapeTerms(House house, Terms terms) {
            for (int i = 0; i <= Terms.MOST; i++) {
                int fault = readTerm(terms);
                if (fault == 0) {
                    fault = readTableOfTerm(house, i);
                }
                if (fault != 0 || tape.kind == Tape.END) {
                    return fault;
                }
                if (!tape.isSign(',')) {
                    break;
                }
                tape.advance();
            }
            return faultHere(WRONG_TOKEN);
        }

        private int readTableOfTerm(House house, int term) {
            if (!tape.isWord(Words.OF)) {
                return faultHere(WRONG_TOKEN);
            }
            tape.advance();
            int fault = faultOfTableName(house);
            if (fault == 0) {
                shape = Questions.withTerm(shape, term, house.tableNamed(tape.value));
                tape.advance();
            }
            return fault;
        }

        private int faultOfTableName(House house) {
            if (!tape.isName()) {
                return faultHere(WRONG_TOKEN);
            }
            return house.tableNamed(tape.value) == NONE ? faultHere(NOT_TOLD) : 0;
        }

        private int passSign(char sign) {
            if (!tape.isSign(sign)) {
                return faultHere(WRONG_TOKEN);
            }
            tape.advance();
            return 0;
        }

        private int faultHere(int kind) {
            return kind + PLACES * tape.place;
        }
    }

    /** At what PRICE each SEEN ROW HOLDS each TERM. */
    private static final class Hits {
        private static final int EXACT = 0;
        private static final int FORM = 1;
        private static final int ALMOST = 2;
        private static final int TABLE_NAME = 3;
        private static final int COLUMN_NAME = 4;
        private static final int BEYOND = 1;

        private final int[] prices = new int[Terms.MOST * House.MOST_ROWS];
        private final long[] nearOnes = new long[House.MOST_ROWS * House.MOST_COLUMNS];
        private int nearCount;
        /** For each TERM the ROWS that hold it, and the least PRICE (NONE: nowhere). */
        final int[] holders = new int[Terms.MOST];
        final int[] least = new int[Terms.MOST];
        /** For each ROW the TERMS that it holds. */
        final int[] held = new int[House.MOST_ROWS];

        void fill(House house, Terms terms, int seen) {
            Arrays.fill(held, 0);
            for (int term = 0; term < terms.count; term++) {
                holders[term] = 0;
                least[term] = NONE;
                for (int row = 0; row < house.rowCount; row++) {
                    boolean there = (seen >> row & 1) != 0;
                    int price = there ? priceOf(house, row, terms.kinds[term], terms.values[term]) : NONE;
                    keep(row, term, price);
                }
            }
        }

        private void keep(int row, int term, int price) {
            prices[term * House.MOST_ROWS + row] = price;
            if (price == NONE) {
                return;
            }
            holders[term] |= 1 << row;
            held[row] |= 1 << term;
            if (least[term] == NONE || price < least[term]) {
                least[term] = price;
            }
        }

        int priceAt(int row, int term) {
            boolean fits = row >= 0 && row < House.MOST_ROWS && term >= 0 && term < Terms.MOST;
            return fits ? prices[term * House.MOST_ROWS + row] : NONE;
        }

        /** The first ROW of a set that HOLDS a TERM at the least PRICE. */
        int holderIn(int set, int term) {
            int best = NONE;
            int bestPrice = 0;
            int rows = set & holders[term];
            for (int n = Integer.bitCount(rows); n > 0; n--) {
                int row = Integer.numberOfTrailingZeros(rows);
                rows &= rows - 1;
                int price = priceAt(row, term);
                if (best == NONE || price < bestPrice) {
                    best = row;
                    bestPrice = price;
                }
            }
            return best;
        }

        private static int priceOf(House house, int row, int kind, long value) {
            switch (kind) {
                case Terms.PLAIN:
                    return priceOfWord(house, row, value);
                case Terms.NEAR:
                    return priceOfNear(house, row, value);
                default:
                    return priceOfNumber(house, row, kind == Terms.OVER, value);
            }
        }

        private static int priceOfWord(House house, int row, long word) {
            int best = NONE;
            if (house.tableNames[house.rowTables[row]] == word) {
                best = TABLE_NAME;
            } else if (house.hasColumnNamed(house.rowTables[row], word)) {
                best = COLUMN_NAME;
            }
            for (int column = 0; column < House.MOST_COLUMNS; column++) {
                long cell = house.wordAt(row, column);
                if (cell == word) {
                    return EXACT;
                }
                if (cell != 0 && Words.isOtherForm(cell, word)) {
                    best = FORM;
                }
            }
            return best;
        }

        private static int priceOfNear(House house, int row, long word) {
            int best = NONE;
            for (int column = 0; column < House.MOST_COLUMNS; column++) {
                long cell = house.wordAt(row, column);
                if (cell == word) {
                    return EXACT;
                }
                if (cell != 0 && Words.isOneLetterApart(cell, word)) {
                    best = ALMOST;
                }
            }
            return best;
        }

        private static int priceOfNumber(House house, int row, boolean over, long bound) {
            for (int column = 0; column < House.MOST_COLUMNS; column++) {
                long number = house.numberAt(row, column);
                if (number != NONE && (over ? number > bound : number < bound)) {
                    return BEYOND;
                }
            }
            return NONE;
        }

        /** The i-th WORD in SEEN ROWS, in the order of letters, that is one letter from a WORD. */
        long nearWord(House house, int seen, long word, int i) {
            nearCount = 0;
            for (int row = 0; row < house.rowCount; row++) {
                for (int column = 0; column < House.MOST_COLUMNS && (seen >> row & 1) != 0; column++) {
                    long cell = house.wordAt(row, column);
                    if (cell != 0 && Words.isOneLetterApart(cell, word)) {
                        insertNear(cell);
                    }
                }
            }
            return i >= 0 && i < nearCount ? nearOnes[i] : NONE;
        }

        private void insertNear(long word) {
            long order = Words.orderOf(word);
            int at = 0;
            while (at < nearCount && Words.orderOf(nearOnes[at]) < order) {
                at++;
            }
            boolean known = at < nearCount && nearOnes[at] == word;
            if (known || nearCount >= nearOnes.length) {
                return;
            }
            for (int i = nearCount; i > at; i--) {
                nearOnes[i] = nearOnes[i - 1];
            }
            nearOnes[at] = word;
            nearCount++;
        }
    }

    /** The TIES among SEEN ROWS: told by KEYS, and let. */
    private static final class Ties {
        private static final int POINTING_FOR_ONE_MORE = 3;
        private static final int LET_PRICE = 3;

        /** The least PRICE for each two ROWS; 0: no TIE. */
        private final int[] prices = new int[House.MOST_ROWS * House.MOST_ROWS];
        /** For each ROW those tied to it. */
        final int[] tied = new int[House.MOST_ROWS];
        int pairs;
        int least;

        void fill(House house, Offers offers, int seen) {
            Arrays.fill(prices, 0);
            Arrays.fill(tied, 0);
            pairs = 0;
            least = 0;
            for (int row = 0; row < house.rowCount; row++) {
                for (int column = 0; column < House.MOST_COLUMNS && (seen >> row & 1) != 0; column++) {
                    addKey(house, seen, row, column);
                }
            }
            for (int i = 0; i < offers.letCount; i++) {
                addLet(house, seen, offers.letFrom(i), offers.letTo(i));
            }
        }

        int priceOf(int a, int b) {
            boolean fits = a >= 0 && a < House.MOST_ROWS && b >= 0 && b < House.MOST_ROWS;
            return fits ? prices[a * House.MOST_ROWS + b] : 0;
        }

        private void addKey(House house, int seen, int row, int column) {
            int other = house.keyAt(row, column, seen);
            if (other == NONE) {
                return;
            }
            int pointing = 0;
            for (int i = 0; i < house.rowCount; i++) {
                boolean counts = (seen >> i & 1) != 0 && house.rowTables[i] == house.rowTables[row];
                if (counts && house.keyAt(i, column, seen) == other) {
                    pointing++;
                }
            }
            add(row, other, 1 + pointing / POINTING_FOR_ONE_MORE);
        }

        private void addLet(House house, int seen, int from, int to) {
            for (int a = 0; a < house.rowCount; a++) {
                long word = Offers.wordIn(house, seen, a, from);
                for (int b = 0; b < house.rowCount && word != 0; b++) {
                    if (Offers.wordIn(house, seen, b, to) == word) {
                        add(a, b, LET_PRICE);
                    }
                }
            }
        }

        private void add(int a, int b, int price) {
            int before = priceOf(a, b);
            if (a == b || before != 0 && before <= price) {
                return;
            }
            prices[a * House.MOST_ROWS + b] = price;
            prices[b * House.MOST_ROWS + a] = price;
            tied[a] |= 1 << b;
            tied[b] |= 1 << a;
            pairs += before == 0 ? 1 : 0;
            if (least == 0 || price < least) {
                least = price;
            }
        }
    }

    /** TIES that nobody told: those OFFERED, and those LET. A column is TABLE * 4 + COLUMN here. */
    private static final class Offers {
        private static final int COLUMNS = House.MOST_TABLES * House.MOST_COLUMNS;
        private static final int MOST_LET = 20;

        private final int[] codes = new int[COLUMNS * COLUMNS];
        private final int[] let = new int[MOST_LET];
        private final boolean[] differs = new boolean[COLUMNS];
        int offeredCount;
        int letCount;

        void fill(House house, int seen) {
            offeredCount = 0;
            for (int column = 0; column < COLUMNS; column++) {
                differs[column] = isText(house, column) && allDiffer(house, seen, column);
            }
            for (int from = 0; from < COLUMNS; from++) {
                for (int to = 0; to < COLUMNS && isText(house, from); to++) {
                    boolean apart = from / House.MOST_COLUMNS != to / House.MOST_COLUMNS;
                    if (apart && differs[to] && allAmong(house, seen, from, to)) {
                        codes[offeredCount++] = from * COLUMNS + to;
                    }
                }
            }
        }

        int codeAt(int i) {
            return i >= 0 && i < offeredCount ? codes[i] : NONE;
        }

        boolean letOne(int i) {
            int code = codeAt(i);
            if (code == NONE || letCount >= MOST_LET) {
                return false;
            }
            for (int k = 0; k < letCount; k++) {
                if (let[k] == code) {
                    return false;
                }
            }
            let[letCount++] = code;
            return true;
        }

        void forgetLets() {
            letCount = 0;
        }

        int letFrom(int i) {
            return i >= 0 && i < letCount ? let[i] / COLUMNS : NONE;
        }

        int letTo(int i) {
            return i >= 0 && i < letCount ? let[i] % COLUMNS : NONE;
        }

        /** The WORD that a SEEN ROW has in a column; 0: the ROW is not SEEN, or of another TABLE. */
        static long wordIn(House house, int seen, int row, int column) {
            boolean there = row >= 0 && row < house.rowCount && (seen >> row & 1) != 0;
            if (!there || house.rowTables[row] != column / House.MOST_COLUMNS) {
                return 0;
            }
            return house.wordAt(row, column % House.MOST_COLUMNS);
        }

        private static boolean isText(House house, int column) {
            int table = column / House.MOST_COLUMNS;
            return table < house.tableCount && column % House.MOST_COLUMNS < house.columnCounts[table]
                && house.kinds[column] == House.TEXT;
        }

        private static boolean allDiffer(House house, int seen, int column) {
            for (int row = 0; row < house.rowCount; row++) {
                long word = wordIn(house, seen, row, column);
                if (word != 0 && hasWord(house, seen, column, word, row)) {
                    return false;
                }
            }
            return true;
        }

        /** Whether there is a ROW in the first, and all its WORDS are in the other. */
        private static boolean allAmong(House house, int seen, int from, int to) {
            boolean some = false;
            for (int row = 0; row < house.rowCount; row++) {
                long word = wordIn(house, seen, row, from);
                if (word != 0 && !hasWord(house, seen, to, word, house.rowCount)) {
                    return false;
                }
                some |= word != 0;
            }
            return some;
        }

        private static boolean hasWord(House house, int seen, int column, long word, int ahead) {
            for (int row = 0; row < ahead; row++) {
                if (wordIn(house, seen, row, column) == word) {
                    return true;
                }
            }
            return false;
        }
    }

    /** LOOKS at all sets of SEEN ROWS that hang together, and keeps the JOININGS among them. */
    private static final class Search {
        static final int WIDEST = 5;
        private static final int PRICES = 64;
        private static final int SET_BITS = House.MOST_ROWS;
        private static final long ONLY_SET = (1L << SET_BITS) - 1;
        private static final int PRICE_SHIFT = SET_BITS + 6;
        private static final int FEW = 64;

        private final Ties ties;
        private final Hits hits;
        /** For each level of a set that grows: the groups that hang together, as all that is tied to one. */
        private final int[] reach = new int[(WIDEST + 1) * WIDEST];
        private final int[] groups = new int[WIDEST + 1];
        /** For each ROW those few enough TIES away to be in one set with it. */
        private final int[] within = new int[House.MOST_ROWS];
        /** How many sets of so many ROWS at most there are. */
        private final int[] setsUpTo = new int[WIDEST + 1];
        private final int[] pricePlaces = new int[PRICES + 1];
        /** Behind which sets the least PRICE of a JOINING went down, and to what. */
        private final int[] dropPlaces = new int[PRICES];
        private final int[] dropPrices = new int[PRICES];
        /** JOININGS (PRICE, sum of TIES, set), as they were found and in their order. */
        private long[] found = new long[FEW];
        private long[] ordered = new long[FEW];
        private int drops;
        private int size;
        private int termCount;
        private int allTerms;
        /** Which sets of TERMS are those that some set of ROWS holds, a bit for each. */
        private int coversSeen;
        int sets;
        int joinings;

        Search(Ties ties, Hits hits) {
            this.ties = ties;
            this.hits = hits;
        }

        void run(int seen, int mostRows, int terms) {
            termCount = terms;
            allTerms = (1 << terms) - 1;
            sets = 0;
            joinings = 0;
            drops = 0;
            coversSeen = 0;
            groups[0] = 0;
            setsUpTo[0] = 0;
            for (int row = 0; row < House.MOST_ROWS; row++) {
                within[row] = 1 << row;
            }
            for (int rows = 1; rows <= mostRows && rows <= WIDEST; rows++) {
                size = rows;
                grow(0, 0, 0, seen);
                setsUpTo[rows] = sets;
                widen();
            }
            for (int i = 0; i < joinings; i++) {
                setPrice(i);
            }
            order();
        }

        /** One TIE farther, as the sets have one ROW more. */
        private void widen() {
            for (int row = 0; row < House.MOST_ROWS; row++) {
                int rows = within[row];
                for (int n = Integer.bitCount(rows); n > 0; n--) {
                    within[row] |= ties.tied[Integer.numberOfTrailingZeros(rows)];
                    rows &= rows - 1;
                }
            }
        }

        /** Highest ROWS first, each rising: so the sets come as bits from the least on. */
        private void grow(int level, int set, int covered, int rows) {
            if (level + 1 >= size) {
                lookAtLast(level, set, covered, rows);
                return;
            }
            int rest = rows;
            for (int n = Integer.bitCount(rows); n > 0; n--) {
                int row = Integer.numberOfTrailingZeros(rest);
                rest &= rest - 1;
                int lower = rows & (1 << row) - 1 & within[row];
                if (lower != 0 && addToGroups(level, row, lower)) {
                    grow(level + 1, set | 1 << row, covered | hits.held[row], lower);
                }
            }
        }

        /** False: a group is tied to no ROW that may come, so that it can't hang together with them. */
        private boolean addToGroups(int level, int row, int coming) {
            int from = level * WIDEST;
            int to = from + WIDEST;
            int merged = ties.tied[row];
            int kept = 0;
            for (int i = 0; i < groups[level]; i++) {
                int group = reach[from + i];
                if ((group >> row & 1) != 0) {
                    merged |= group;
                } else if ((group & coming) == 0) {
                    return false;
                } else {
                    reach[to + kept++] = group;
                }
            }
            reach[to + kept] = merged;
            groups[level + 1] = kept + 1;
            return (merged & coming) != 0;
        }

        private void lookAtLast(int level, int set, int covered, int rows) {
            int last = rows;
            for (int i = 0; i < groups[level]; i++) {
                last &= reach[level * WIDEST + i];
            }
            for (int n = Integer.bitCount(last); n > 0; n--) {
                int row = Integer.numberOfTrailingZeros(last);
                last &= last - 1;
                int covers = covered | hits.held[row];
                sets++;
                coversSeen |= 1 << covers;
                if (covers == allTerms && isLeast(set | 1 << row)) {
                    keepFound(set | 1 << row);
                }
            }
        }

        /** Whether no ROW can be left out of a set. */
        private boolean isLeast(int set) {
            int rows = set;
            for (int n = Integer.bitCount(set); n > 0; n--) {
                int others = set & ~(rows & -rows);
                rows &= rows - 1;
                if (holdsAll(others) && hangsTogether(others)) {
                    return false;
                }
            }
            return true;
        }

        private boolean holdsAll(int set) {
            for (int term = 0; term < termCount; term++) {
                if ((hits.holders[term] & set) == 0) {
                    return false;
                }
            }
            return true;
        }

        private boolean hangsTogether(int set) {
            int reached = set & -set;
            int fresh = reached;
            for (int i = 0; i < WIDEST && fresh != 0; i++) {
                int tied = 0;
                for (int n = Integer.bitCount(fresh); n > 0; n--) {
                    tied |= ties.tied[Integer.numberOfTrailingZeros(fresh)];
                    fresh &= fresh - 1;
                }
                fresh = tied & set & ~reached;
                reached |= fresh;
            }
            return reached == set;
        }

        /** With the place of the set among those looked at, until all are found and get their PRICES. */
        private void keepFound(int set) {
            if (joinings >= found.length) {
                found = Arrays.copyOf(found, 2 * joinings);
            }
            found[joinings++] = (long) sets << SET_BITS | set;
        }

        private void setPrice(int i) {
            int set = (int) (found[i] & ONLY_SET);
            int place = (int) (found[i] >> SET_BITS);
            int tieSum = tieSum(set);
            int price = tieSum;
            for (int term = 0; term < termCount; term++) {
                price += hits.priceAt(hits.holderIn(set, term), term);
            }
            price = Math.max(0, Math.min(price, PRICES - 1));
            if (drops == 0 || price < dropPrices[drops - 1]) {
                dropPlaces[drops] = place;
                dropPrices[drops] = price;
                drops++;
            }
            found[i] = (long) price << PRICE_SHIFT | (long) tieSum << SET_BITS | set;
        }

        /** The least sum of TIES by which a set hangs together, by always taking the least one more. */
        private int tieSum(int set) {
            int reached = set & -set;
            int sum = 0;
            for (int n = Integer.bitCount(set); n > 1; n--) {
                int price = 0;
                int nearest = 0;
                int others = set & ~reached;
                for (int k = Integer.bitCount(others); k > 0; k--) {
                    int row = Integer.numberOfTrailingZeros(others);
                    others &= others - 1;
                    int tie = leastTie(row, reached);
                    if (tie != 0 && (price == 0 || tie < price)) {
                        price = tie;
                        nearest = row;
                    }
                }
                sum += price;
                reached |= price == 0 ? 0 : 1 << nearest;
            }
            return sum;
        }

        private int leastTie(int row, int among) {
            int rows = ties.tied[row] & among;
            int best = 0;
            for (int n = Integer.bitCount(rows); n > 0; n--) {
                int price = ties.priceOf(row, Integer.numberOfTrailingZeros(rows));
                rows &= rows - 1;
                if (best == 0 || price < best) {
                    best = price;
                }
            }
            return best;
        }

        /** By PRICE; of equal ones as they were found, which is by how many ROWS, then as bits. */
        private void order() {
            if (ordered.length < joinings) {
                ordered = new long[found.length];
            }
            Arrays.fill(pricePlaces, 0);
            for (int i = 0; i < joinings; i++) {
                pricePlaces[(int) (found[i] >> PRICE_SHIFT) + 1]++;
            }
            for (int price = 0; price < PRICES; price++) {
                pricePlaces[price + 1] += pricePlaces[price];
            }
            for (int i = 0; i < joinings; i++) {
                int price = (int) (found[i] >> PRICE_SHIFT);
                ordered[pricePlaces[price]] = found[i];
                pricePlaces[price]++;
            }
        }

        boolean has(int k) {
            return k >= 0 && k < joinings;
        }

        int setOf(int k) {
            return has(k) ? (int) (ordered[k] & ONLY_SET) : 0;
        }

        int tiesOf(int k) {
            return has(k) ? (int) (ordered[k] >> SET_BITS) & PRICES - 1 : NONE;
        }

        int priceOf(int k) {
            return has(k) ? (int) (ordered[k] >> PRICE_SHIFT) : NONE;
        }

        int placeOf(int set) {
            for (int k = 0; k < joinings; k++) {
                if (setOf(k) == set) {
                    return k;
                }
            }
            return NONE;
        }

        int rowsOfAll() {
            int rows = 0;
            for (int k = 0; k < joinings; k++) {
                rows |= setOf(k);
            }
            return rows;
        }

        /** The greater number: of JOININGS with one of some ROWS, and of those with none. */
        int greaterPart(int rows) {
            int with = 0;
            for (int k = 0; k < joinings; k++) {
                with += (setOf(k) & rows) != 0 ? 1 : 0;
            }
            return Math.max(with, joinings - with);
        }

        int leastBehind(int looks) {
            int price = NONE;
            for (int i = 0; i < drops && dropPlaces[i] <= looks; i++) {
                price = dropPrices[i];
            }
            return price;
        }

        int boundBehind(int looks) {
            if (looks >= sets) {
                return NONE;
            }
            int rows = 1;
            while (rows < WIDEST && setsUpTo[rows] <= looks) {
                rows++;
            }
            if (rows > 1 && ties.least == 0) {
                return NONE;
            }
            int bound = (rows - 1) * ties.least;
            for (int term = 0; term < termCount; term++) {
                if (hits.least[term] == NONE) {
                    return NONE;
                }
                bound += hits.least[term];
            }
            return bound;
        }

        int leftOut() {
            if (joinings > 0) {
                return NONE;
            }
            for (int many = 1; many < termCount; many++) {
                for (int out = 1; out < allTerms; out++) {
                    if (Integer.bitCount(out) == many && canBeHeld(allTerms & ~out)) {
                        return out;
                    }
                }
            }
            return NONE;
        }

        private boolean canBeHeld(int wanted) {
            for (int covers = 0; covers <= allTerms; covers++) {
                if ((coversSeen >> covers & 1) != 0 && (covers & wanted) == wanted) {
                    return true;
                }
            }
            return false;
        }
    }

    /** The SHAPES of the JOININGS, how often each was chosen, and their SENTENCES. */
    private static final class Questions {
        private static final int BITS = 3;
        private static final int LOW = 7;
        private static final int TERMS_SHIFT = BITS * House.MOST_TABLES;
        private static final int TABLES_ALONE = (1 << TERMS_SHIFT) - 1;
        private static final int HEADS = 64;
        private static final int FEW = 32;
        /** So many ways there are to take 1 to 5 ROWS of 5 TABLES. */
        private static final int MOST_CHOSEN = 251;
        private static final int LONGEST = 200;

        private final int[] heads = new int[HEADS];
        private int[] chain = new int[FEW];
        private int[] shapes = new int[FEW];
        private int[] counts = new int[FEW];
        private int[] firsts = new int[FEW];
        private int[] numbers = new int[FEW];
        private final int[] chosenShapes = new int[MOST_CHOSEN];
        private final int[] chosenTimes = new int[MOST_CHOSEN];
        private final byte[] sentence = new byte[LONGEST];
        private int sentenceSigns;
        private int sentenceOf = NONE;
        private int chosenCount;
        int size;

        static int withRow(int shape, int table) {
            return shape + (1 << BITS * table);
        }

        static int withTerm(int shape, int term, int table) {
            return shape | table << TERMS_SHIFT + BITS * term;
        }

        void fill(House house, Hits hits, Search search, int terms) {
            size = 0;
            sentenceOf = NONE;
            Arrays.fill(heads, NONE);
            if (numbers.length < search.joinings) {
                numbers = new int[2 * search.joinings];
            }
            for (int k = 0; k < search.joinings; k++) {
                int shape = shapeOf(house, hits, search.setOf(k), terms);
                int question = find(shape);
                if (question == NONE) {
                    question = add(shape, k);
                }
                counts[question]++;
                numbers[k] = question;
            }
        }

        private static int shapeOf(House house, Hits hits, int set, int terms) {
            int shape = 0;
            int rows = set;
            for (int n = Integer.bitCount(set); n > 0; n--) {
                shape = withRow(shape, house.rowTables[Integer.numberOfTrailingZeros(rows)]);
                rows &= rows - 1;
            }
            for (int term = 0; term < terms; term++) {
                int row = hits.holderIn(set, term);
                if (house.isTold(row)) {
                    shape = withTerm(shape, term, house.rowTables[row]);
                }
            }
            return shape;
        }

        /** The QUESTION of a SHAPE. */
        int find(int shape) {
            int question = heads[headOf(shape)];
            for (int i = 0; i < size && question != NONE; i++) {
                if (shapes[question] == shape) {
                    return question;
                }
                question = chain[question];
            }
            return NONE;
        }

        private static int headOf(int shape) {
            return Math.floorMod(shape ^ shape >> 6 ^ shape >> 13 ^ shape >> 19, HEADS);
        }

        private int add(int shape, int joining) {
            if (size >= shapes.length) {
                chain = Arrays.copyOf(chain, 2 * size);
                shapes = Arrays.copyOf(shapes, 2 * size);
                counts = Arrays.copyOf(counts, 2 * size);
                firsts = Arrays.copyOf(firsts, 2 * size);
            }
            int head = headOf(shape);
            chain[size] = heads[head];
            heads[head] = size;
            shapes[size] = shape;
            counts[size] = 0;
            firsts[size] = joining;
            return size++;
        }

        boolean has(int question) {
            return question >= 0 && question < size;
        }

        int ofJoining(int k) {
            return k >= 0 && k < numbers.length ? numbers[k] : NONE;
        }

        int joiningsOf(int question) {
            return has(question) ? counts[question] : NONE;
        }

        int firstOf(int question) {
            return has(question) ? firsts[question] : NONE;
        }

        int chosenOf(int question) {
            int i = chosenPlace(question);
            return i < chosenCount ? chosenTimes[i] : 0;
        }

        int chooseOne(int question) {
            int i = chosenPlace(question);
            if (i >= MOST_CHOSEN) {
                return NONE;
            }
            if (i == chosenCount) {
                chosenShapes[i] = shapes[question] & TABLES_ALONE;
                chosenTimes[i] = 0;
                chosenCount++;
            }
            return ++chosenTimes[i];
        }

        void forgetChosen() {
            chosenCount = 0;
        }

        /** Where the SHAPE of a QUESTION stands among those chosen; behind them if it is none. */
        private int chosenPlace(int question) {
            int shape = has(question) ? shapes[question] & TABLES_ALONE : 0;
            int i = 0;
            while (i < chosenCount && chosenShapes[i] != shape) {
                i++;
            }
            return i;
        }

        int rankOf(int question) {
            int chosen = chosenOf(question);
            int rank = 0;
            for (int other = 0; other < size; other++) {
                int times = chosenOf(other);
                if (times > chosen || times == chosen && other < question) {
                    rank++;
                }
            }
            return rank;
        }

        int sentenceLength(int question, House house, Terms terms) {
            tell(question, house, terms);
            return sentenceSigns;
        }

        int sentenceSign(int question, int k, House house, Terms terms) {
            tell(question, house, terms);
            return k >= 0 && k < sentenceSigns ? sentence[k] : NONE;
        }

        private void tell(int question, House house, Terms terms) {
            if (sentenceOf == question || !has(question)) {
                return;
            }
            sentenceOf = question;
            sentenceSigns = 0;
            int shape = shapes[question];
            for (int table = 0; table < house.tableCount; table++) {
                for (int n = shape >> BITS * table & LOW; n > 0; n--) {
                    putComma();
                    putWord(house.tableNames[table]);
                }
            }
            put(' ');
            put(':');
            for (int term = 0; term < terms.count; term++) {
                if (term > 0) {
                    putComma();
                } else {
                    put(' ');
                }
                tellTerm(terms.kinds[term], terms.values[term]);
                put(' ');
                putWord(Words.OF);
                put(' ');
                int table = shape >> TERMS_SHIFT + BITS * term & LOW;
                putWord(table < house.tableCount ? house.tableNames[table] : 0);
            }
        }

        private void tellTerm(int kind, long value) {
            if (kind == Terms.PLAIN) {
                putWord(value);
            } else if (kind == Terms.NEAR) {
                putWord(Words.NEAR);
                put(' ');
                putWord(value);
            } else {
                putWord(kind == Terms.OVER ? Words.OVER : Words.UNDER);
                put(' ');
                putNumber((int) value);
            }
        }

        private void putComma() {
            if (sentenceSigns > 0) {
                put(' ');
                put(',');
                put(' ');
            }
        }

        private void putWord(long word) {
            for (int i = Words.lengthOf(word) - 1; i >= 0; i--) {
                put('a' - 1 + (int) (word / Words.POWERS[i] % Words.BASE));
            }
        }

        private void putNumber(int number) {
            for (int unit = 1000; unit > 0; unit /= 10) {
                if (number >= unit || unit == 1) {
                    put('0' + number / unit % 10);
                }
            }
        }

        private void put(int sign) {
            if (sentenceSigns < LONGEST) {
                sentence[sentenceSigns++] = (byte) sign;
            }
        }
    }

    /** PARTS: the WORD that parts the JOININGS most. */
    private static final class Parting {
        /** 0: there is none. */
        long word;
        int greater;

        void find(House house, Terms terms, Search search) {
            word = 0;
            greater = 0;
            int rows = search.rowsOfAll();
            for (int row = 0; row < house.rowCount; row++) {
                for (int column = 0; column < House.MOST_COLUMNS && (rows >> row & 1) != 0; column++) {
                    long cell = house.wordAt(row, column);
                    if (cell != 0 && !terms.hasPlainWord(cell)) {
                        weigh(house, search, cell, row, rows);
                    }
                }
            }
        }

        /** A WORD is weighed once, at the first ROW that has it. */
        private void weigh(House house, Search search, long cell, int first, int rows) {
            int with = 0;
            for (int row = 0; row < house.rowCount; row++) {
                if ((rows >> row & 1) != 0 && house.hasWord(row, cell)) {
                    with |= 1 << row;
                }
            }
            if (Integer.numberOfTrailingZeros(with) != first) {
                return;
            }
            int part = search.greaterPart(with);
            boolean better = word == 0 || part < greater
                || part == greater && Words.orderOf(cell) < Words.orderOf(word);
            if (better) {
                word = cell;
                greater = part;
            }
        }
    }
}
