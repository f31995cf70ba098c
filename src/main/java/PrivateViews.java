import java.util.NoSuchElementException;

/** A shared sheet that is seen, and edited, through four views of one's own. */
public final class PrivateViews {
    public static final int NONE = -1;
    public static final int NOTHING = -1000000;

    private static final int MOST_BYTES = 400;
    private static final int BYTES_FED = 20;
    private static final int MOST_TEXTS = 12;
    private static final int MOST_LINES = 14;
    private static final int MOST_GRIDS = 12;
    private static final int MOST_COLUMNS = 5;
    private static final int MOST_ROWS = 24;
    private static final int MOST_CELLS = 120;
    private static final int MOST_VIEWS = 4;
    private static final int MOST_SORTS = 3;
    private static final int MOST_TESTS = 6;
    private static final int MOST_NOTS = 4;
    private static final int MOST_EDITS = 8;
    private static final int MOST_CHANGES = 60;
    private static final int MOST_LOGGED = 40;
    private static final int MOST_DIGITS = 3;
    private static final int MOST_LETTERS = 4;
    private static final int GREATEST_NUMBER = 999;
    private static final int FIGURES = 27;
    private static final int FIRST_UNIT = 19683;
    private static final int NUMBERS = 0;
    private static final int WORDS = 1;

    private final Reader reader = new Reader();
    private final Texts texts = new Texts();
    private final State now = new State();
    private final Questions questions = new Questions();
    private State kept;

    public PrivateViews() {
    }

    public int feed(int a, int b, int c, int d, int e) {
        if (reader.fed + BYTES_FED > MOST_BYTES) {
            return NONE;
        }
        reader.takeIn(a);
        reader.takeIn(b);
        reader.takeIn(c);
        reader.takeIn(d);
        reader.takeIn(e);
        return reader.fed;
    }

    public boolean end(int n) {
        if (n < 0 || n > reader.fed) {
            return false;
        }
        reader.fed = n;
        return true;
    }

    public int sheet() throws IllegalArgumentException, UnsupportedOperationException {
        reader.openText();
        if (!texts.readSheet(reader, now.sheet)) {
            throw new IllegalArgumentException();
        }
        if (now.sheet.texts >= MOST_TEXTS) {
            throw new UnsupportedOperationException();
        }
        now.takeSheetText(texts);
        return now.sheet.texts;
    }

    public int view(int view) throws IndexOutOfBoundsException, IllegalArgumentException {
        reader.useUp();
        View seen = viewNumbered(view);
        reader.openUsedText();
        if (!texts.readView(reader, now.sheet)) {
            throw new IllegalArgumentException();
        }
        seen.lens.copyFrom(texts.lens);
        now.freshInto(seen.lens, seen.list);
        return seen.list.length();
    }

    public int fault() {
        return reader.wrong;
    }

    public int kind(int column) throws IndexOutOfBoundsException {
        needColumn(column);
        return now.sheet.kindOf(column);
    }

    public int cell(int key, int column) throws IndexOutOfBoundsException {
        int seat = seatOfKey(key);
        needColumn(column);
        return now.sheet.valueAt(seat, column);
    }

    public int order(int place) {
        return now.sheet.keyAt(now.sheet.ordered.at(place));
    }

    public int row(int view, int place) throws IndexOutOfBoundsException {
        return now.sheet.keyAt(viewNumbered(view).list.at(place));
    }

    public int place(int view, int key) throws IndexOutOfBoundsException {
        View seen = viewNumbered(view);
        return seen.list.placeOf(seatOfKey(key));
    }

    public int about(int view, int what) throws IndexOutOfBoundsException, NoSuchElementException {
        View seen = viewNumbered(view);
        switch (what) {
            case 0:
                return seen.list.length();
            case 1:
                return seen.lens.sortsTold;
            case 2:
                return seen.lens.hidden;
            case 3:
                return seen.lens.filteredBits();
            case 4:
                return seen.remembered;
            default:
                throw new NoSuchElementException();
        }
    }

    public int sorts(int view, int k) throws IndexOutOfBoundsException {
        return viewNumbered(view).lens.sortAt(k);
    }

    public int set(int view, int place, int column, int value)
            throws IndexOutOfBoundsException, IllegalStateException, IllegalArgumentException {
        View seen = viewNumbered(view);
        int seat = seatAtPlace(seen, place);
        needColumn(column);
        needShown(seen, column);
        if (!now.sheet.mayHold(column, value)) {
            throw new IllegalArgumentException();
        }
        return changeOne(view, seat, column, value);
    }

    public int clear(int view, int place, int column) throws IndexOutOfBoundsException, IllegalStateException {
        View seen = viewNumbered(view);
        int seat = seatAtPlace(seen, place);
        needColumn(column);
        needShown(seen, column);
        return changeOne(view, seat, column, NOTHING);
    }

    public int fill(int view, int from, int to, int column)
            throws IndexOutOfBoundsException, IllegalArgumentException, IllegalStateException {
        View seen = viewNumbered(view);
        int first = seatAtPlace(seen, from);
        seatAtPlace(seen, to);
        needColumn(column);
        if (to < from) {
            throw new IllegalArgumentException();
        }
        needShown(seen, column);
        int value = now.sheet.valueAt(first, column);
        now.beginEdit();
        for (int place = from + 1; place <= to; place++) {
            now.changeCell(view, seen.list.at(place), column, value);
        }
        return now.finishEdit(view);
    }

    public int replace(int view, int column, int value, int by)
            throws IndexOutOfBoundsException, IllegalStateException, IllegalArgumentException {
        View seen = viewNumbered(view);
        needColumn(column);
        needShown(seen, column);
        if (!now.sheet.mayHoldOrBlank(column, value) || !now.sheet.mayHoldOrBlank(column, by)) {
            throw new IllegalArgumentException();
        }
        now.beginEdit();
        for (int place = 0; place < seen.list.length(); place++) {
            int seat = seen.list.at(place);
            if (now.sheet.valueAt(seat, column) == value) {
                now.changeCell(view, seat, column, by);
            }
        }
        return now.finishEdit(view);
    }

    public int swap(int view, int place, int other, int column)
            throws IndexOutOfBoundsException, IllegalArgumentException, IllegalStateException {
        View seen = viewNumbered(view);
        int seat = seatAtPlace(seen, place);
        int otherSeat = seatAtPlace(seen, other);
        needColumn(column);
        if (place == other) {
            throw new IllegalArgumentException();
        }
        needShown(seen, column);
        int value = now.sheet.valueAt(seat, column);
        int otherValue = now.sheet.valueAt(otherSeat, column);
        now.beginEdit();
        now.changeCell(view, seat, column, otherValue);
        now.changeCell(view, otherSeat, column, value);
        return now.finishEdit(view);
    }

    public int paste(int view, int place, int column)
            throws IndexOutOfBoundsException, IllegalStateException, IllegalArgumentException,
            UnsupportedOperationException {
        reader.useUp();
        View seen = viewNumbered(view);
        seatAtPlace(seen, place);
        needColumn(column);
        needShown(seen, column);
        reader.openUsedText();
        if (!texts.readGrids(reader, now.sheet, seen.lens, column)) {
            throw new IllegalArgumentException();
        }
        int rowsNew = Math.max(0, place + texts.rowsTold - seen.list.length());
        if (now.sheet.rowsNow() + rowsNew > MOST_ROWS) {
            throw new UnsupportedOperationException();
        }
        return now.pasteGrids(texts, view, place, column);
    }

    public int add(int view, int place) throws IndexOutOfBoundsException, UnsupportedOperationException {
        View seen = viewNumbered(view);
        int ahead = place == NONE ? NONE : seatAtPlace(seen, place);
        if (now.sheet.rowsNow() >= MOST_ROWS || now.sheet.columns == 0) {
            throw new UnsupportedOperationException();
        }
        int seat = now.sheet.seatNewRow();
        now.sheet.ordered.putAt(now.sheet.ordered.placeOf(ahead) + 1, seat);
        seen.list.putAt(place + 1, seat);
        now.joinOthers(seat, view);
        return now.sheet.keyAt(seat);
    }

    public int drop(int view, int place) throws IndexOutOfBoundsException {
        int seat = seatAtPlace(viewNumbered(view), place);
        int key = now.sheet.keyAt(seat);
        now.removeRow(seat);
        return key;
    }

    public int drag(int view, int from, int to) throws IndexOutOfBoundsException, IllegalArgumentException {
        View seen = viewNumbered(view);
        int seat = seatAtPlace(seen, from);
        seatAtPlace(seen, to);
        if (from == to) {
            throw new IllegalArgumentException();
        }
        seen.list.takeOut(seat);
        seen.list.putAt(to, seat);
        now.sheet.followList(seen.list, to);
        return now.sheet.keyAt(seat);
    }

    public int refresh(int view) throws IndexOutOfBoundsException {
        return questions.takeFresh(now, viewNumbered(view));
    }

    public int undo(int view) throws IndexOutOfBoundsException, IllegalStateException {
        View seen = viewNumbered(view);
        Edit latest = seen.latestEdit();
        if (latest == null || latest.firstBarred(now.sheet) != NONE) {
            throw new IllegalStateException();
        }
        return now.takeBack(view, latest);
    }

    public boolean fits(int view, int key) throws IndexOutOfBoundsException {
        View seen = viewNumbered(view);
        return seen.lens.suits(now.sheet, seatOfKey(key));
    }

    public int why(int view, int key) throws IndexOutOfBoundsException {
        View seen = viewNumbered(view);
        return seen.lens.firstUnlike(now.sheet, seatOfKey(key));
    }

    public int stale(int view) throws IndexOutOfBoundsException {
        return questions.staleBits(now, viewNumbered(view));
    }

    public int pending(int view) throws IndexOutOfBoundsException {
        return questions.pendingBits(now, viewNumbered(view));
    }

    public int rank(int view, int key) throws IndexOutOfBoundsException {
        View seen = viewNumbered(view);
        return questions.freshPlace(now, seen, seatOfKey(key));
    }

    public int moves(int view) throws IndexOutOfBoundsException {
        return questions.fewestMoves(now, viewNumbered(view));
    }

    public int unlike(int view, int other) throws IndexOutOfBoundsException, IllegalArgumentException {
        View seen = viewNumbered(view);
        View otherSeen = viewNumbered(other);
        if (view == other) {
            throw new IllegalArgumentException();
        }
        return questions.pairsTurned(seen.list, otherSeen.list);
    }

    public int told(int view, int k) throws IndexOutOfBoundsException {
        questions.tellSorts(now.sheet, viewNumbered(view).list);
        if (k == NONE) {
            return questions.sortsNeeded;
        }
        return k >= 0 && k < questions.sortsNeeded ? questions.sortNeeded(k) : NONE;
    }

    public int between(int view, int from, int to) throws IndexOutOfBoundsException, IllegalArgumentException {
        View seen = viewNumbered(view);
        int seat = seatAtPlace(seen, from);
        int otherSeat = seatAtPlace(seen, to);
        if (from == to) {
            throw new IllegalArgumentException();
        }
        return questions.unseenBetween(now.sheet.ordered, seen.list, seat, otherSeat);
    }

    public int sum(int view, int column) throws IndexOutOfBoundsException, IllegalStateException {
        View seen = viewNumbered(view);
        needColumn(column);
        needNumbers(column);
        return questions.sumOf(now.sheet, seen.list, column);
    }

    public int kinds(int view, int column) throws IndexOutOfBoundsException {
        View seen = viewNumbered(view);
        needColumn(column);
        return questions.groupsOf(now.sheet, seen.list, column);
    }

    public int by(int key, int column) throws IndexOutOfBoundsException {
        int seat = seatOfKey(key);
        needColumn(column);
        return now.sheet.writerAt(seat, column);
    }

    public int group(int view, int column, int k, int what)
            throws IndexOutOfBoundsException, NoSuchElementException, IllegalArgumentException {
        View seen = viewNumbered(view);
        needColumn(column);
        if (what < 0 || what > 3) {
            throw new NoSuchElementException();
        }
        int first = firstOfGroup(seen, column, k);
        switch (what) {
            case 0:
                return now.sheet.valueAt(seen.list.at(first), column);
            case 1:
                return questions.rowsLike(now.sheet, seen.list, column, first);
            case 2:
                return first;
            default:
                return questions.lastLike(now.sheet, seen.list, column, first);
        }
    }

    public int total(int view, int column, int k, int other)
            throws IndexOutOfBoundsException, IllegalStateException, IllegalArgumentException {
        View seen = viewNumbered(view);
        needColumn(column);
        needColumn(other);
        needNumbers(other);
        int first = firstOfGroup(seen, column, k);
        return questions.sumLike(now.sheet, seen.list, column, first, other);
    }

    public int middle(int view, int column) throws IndexOutOfBoundsException {
        View seen = viewNumbered(view);
        needColumn(column);
        return questions.middleOf(now.sheet, seen.list, column);
    }

    public int twice(int view) throws IndexOutOfBoundsException {
        return questions.repeatedBits(now.sheet, viewNumbered(view));
    }

    public int barred(int view) throws IndexOutOfBoundsException {
        Edit latest = viewNumbered(view).latestEdit();
        return latest == null ? NONE : latest.firstBarred(now.sheet);
    }

    public int find(int view, int column, int value, int from)
            throws IndexOutOfBoundsException, IllegalArgumentException {
        View seen = viewNumbered(view);
        needColumn(column);
        if (from < 0 || !now.sheet.mayHoldOrBlank(column, value)) {
            throw new IllegalArgumentException();
        }
        for (int place = from; place < seen.list.length(); place++) {
            if (now.sheet.valueAt(seen.list.at(place), column) == value) {
                return place;
            }
        }
        return NONE;
    }

    public int log(int ago, int what) throws NoSuchElementException {
        if (what < 0 || what >= Log.PARTS) {
            throw new NoSuchElementException();
        }
        return now.log.partOf(ago, what);
    }

    public void image() {
        if (kept == null) {
            kept = new State();
        }
        kept.copyFrom(now);
    }

    public boolean back() {
        if (kept == null) {
            return false;
        }
        now.copyFrom(kept);
        return true;
    }

    public int count(int what) {
        switch (what) {
            case 0:
                return now.sheet.columns;
            case 1:
                return now.sheet.rowsNow();
            case 2:
                return now.sheet.texts;
            case 3:
                return now.sheet.keysSoFar;
            case 4:
                return now.log.size;
            default:
                return NONE;
        }
    }

    private View viewNumbered(int view) {
        if (view < 0 || view >= MOST_VIEWS) {
            throw new IndexOutOfBoundsException();
        }
        return now.views[view];
    }

    private int seatAtPlace(View seen, int place) {
        int seat = seen.list.at(place);
        if (seat == NONE) {
            throw new IndexOutOfBoundsException();
        }
        return seat;
    }

    private int seatOfKey(int key) {
        int seat = now.sheet.seatOf(key);
        if (seat == NONE) {
            throw new IndexOutOfBoundsException();
        }
        return seat;
    }

    private void needColumn(int column) {
        if (!now.sheet.isColumn(column)) {
            throw new IndexOutOfBoundsException();
        }
    }

    private void needShown(View seen, int column) {
        if (seen.lens.hides(column)) {
            throw new IllegalStateException();
        }
    }

    private void needNumbers(int column) {
        if (now.sheet.kindOf(column) != NUMBERS) {
            throw new IllegalStateException();
        }
    }

    private int firstOfGroup(View seen, int column, int k) {
        int first = questions.groupStart(now.sheet, seen.list, column, k);
        if (first == NONE) {
            throw new IllegalArgumentException();
        }
        return first;
    }

    private int changeOne(int view, int seat, int column, int value) {
        now.beginEdit();
        now.changeCell(view, seat, column, value);
        now.finishEdit(view);
        return now.sheet.keyAt(seat);
    }

    /** The tape, and the steps by which a text is read from it; the first wrong byte stays known. */
    private static final class Reader {
        private final int[] tape = new int[MOST_BYTES];
        private int fed;
        private int length;
        private int at;
        private int wrong = NONE;
        private int value;
        private int began;

        void takeIn(int four) {
            for (int shift = 24; shift >= 0; shift -= 8) {
                if (fed < MOST_BYTES) {
                    tape[fed] = (four >> shift) & 255;
                    fed++;
                }
            }
        }

        void useUp() {
            length = fed;
            fed = 0;
        }

        // Apart from useUp, since a call may use the tape up and yet read no text.
        void openUsedText() {
            at = 0;
            wrong = NONE;
        }

        void openText() {
            useUp();
            openUsedText();
        }

        boolean failAt(int where) {
            wrong = where;
            return false;
        }

        boolean failHere() {
            wrong = at;
            return false;
        }

        int byteAt(int where) {
            return where >= 0 && where < length ? tape[where] : NONE;
        }

        boolean isLetterAt(int where) {
            return where >= 0 && where < length && tape[where] >= 'a' && tape[where] <= 'z';
        }

        boolean isDigitAt(int where) {
            return where >= 0 && where < length && tape[where] >= '0' && tape[where] <= '9';
        }

        void skipBlanks() {
            while (at < length && tape[at] == ' ') {
                at++;
            }
        }

        boolean isOver() {
            skipBlanks();
            return at >= length;
        }

        boolean takeSign(char sign) {
            skipBlanks();
            if (byteAt(at) != sign) {
                return false;
            }
            at++;
            return true;
        }

        boolean isWordHere(String word) {
            int behind = at + word.length();
            if (behind > length) {
                return false;
            }
            for (int i = 0; i < word.length(); i++) {
                if (tape[at + i] != word.charAt(i)) {
                    return false;
                }
            }
            // A word goes on as long as letters do, so that one more makes it another word.
            return behind >= length || tape[behind] < 'a' || tape[behind] > 'z';
        }

        boolean takeWord(String word) {
            skipBlanks();
            if (!isWordHere(word)) {
                return false;
            }
            at += word.length();
            return true;
        }

        boolean takeNumber(boolean mayBeBelow) {
            skipBlanks();
            began = at;
            boolean below = mayBeBelow && byteAt(at) == '-';
            int first = below ? at + 1 : at;
            int digits = 0;
            int number = 0;
            while (digits <= MOST_DIGITS && isDigitAt(first + digits)) {
                number = number * 10 + byteAt(first + digits) - '0';
                digits++;
            }
            if (digits == 0) {
                return failAt(first);
            }
            if (digits > MOST_DIGITS) {
                return failAt(began);
            }
            at = first + digits;
            value = below ? -number : number;
            return true;
        }

        boolean takeCell(int kindAsked) {
            if (takeSign('.')) {
                value = NOTHING;
                return true;
            }
            return kindAsked == NUMBERS ? takeNumber(true) : takeLetters();
        }

        private boolean takeLetters() {
            int letters = 0;
            int word = 0;
            int unit = FIRST_UNIT;
            while (letters <= MOST_LETTERS && isLetterAt(at + letters)) {
                word += (byteAt(at + letters) - 'a' + 1) * unit;
                unit /= FIGURES;
                letters++;
            }
            if (letters == 0 || letters > MOST_LETTERS) {
                return failHere();
            }
            at += letters;
            value = word;
            return true;
        }
    }

    /** What a text tells, read apart from the state, so that of a wrong one nothing stays. */
    private static final class Texts {
        private static final int WIDEST = 70;

        private int columns;
        private final int[] kindsTold = new int[MOST_COLUMNS];
        private int rowsTold;
        private final int[] widths = new int[MOST_LINES];
        private final int[] values = new int[WIDEST];
        private final Lens lens = new Lens();

        int toldAt(int row, int i) {
            boolean known = row >= 0 && row < rowsTold && row < MOST_LINES && i >= 0 && i < widthOf(row);
            return known ? values[row * MOST_COLUMNS + i] : NOTHING;
        }

        int widthOf(int row) {
            return row >= 0 && row < MOST_LINES ? widths[row] : 0;
        }

        private void knowColumns(Sheet sheet) {
            columns = sheet.columns;
            System.arraycopy(sheet.kindsTold, 0, kindsTold, 0, MOST_COLUMNS);
            rowsTold = 0;
        }

        private int kindAsked(int column) {
            return column >= 0 && column < columns && column < MOST_COLUMNS ? kindsTold[column] : NONE;
        }

        private void beginRow() {
            if (rowsTold < MOST_LINES) {
                widths[rowsTold] = 0;
            }
        }

        private void takeValue(int value) {
            if (rowsTold < MOST_LINES && widths[rowsTold] < MOST_COLUMNS) {
                values[rowsTold * MOST_COLUMNS + widths[rowsTold]] = value;
                widths[rowsTold]++;
            }
        }

        boolean readSheet(Reader reader, Sheet sheet) {
            knowColumns(sheet);
            if (reader.isOver()) {
                return true;
            }
            for (int line = 0; line < MOST_LINES; line++) {
                if (!readLine(reader, sheet.rowsNow())) {
                    return false;
                }
                if (reader.isOver()) {
                    return true;
                }
                if (!reader.takeSign(';')) {
                    return reader.failHere();
                }
            }
            reader.skipBlanks();
            return reader.failHere();
        }

        private boolean readLine(Reader reader, int rowsThere) {
            reader.skipBlanks();
            int start = reader.at;
            if (reader.takeWord("columns")) {
                return columns == 0 ? readKinds(reader) : reader.failAt(start);
            }
            if (reader.takeWord("row")) {
                boolean may = columns > 0 && rowsThere + rowsTold < MOST_ROWS;
                return may ? readCells(reader) : reader.failAt(start);
            }
            return reader.failHere();
        }

        private boolean readKinds(Reader reader) {
            for (int column = 0; column < MOST_COLUMNS; column++) {
                if (reader.takeWord("number")) {
                    kindsTold[column] = NUMBERS;
                } else if (reader.takeWord("word")) {
                    kindsTold[column] = WORDS;
                } else {
                    // What is no kind ends the line, but for the first one, which must come.
                    return column > 0 || reader.failHere();
                }
                columns = column + 1;
            }
            return true;
        }

        private boolean readCells(Reader reader) {
            beginRow();
            for (int column = 0; column < columns; column++) {
                if (!reader.takeCell(kindAsked(column))) {
                    return false;
                }
                takeValue(reader.value);
            }
            rowsTold++;
            return true;
        }

        boolean readView(Reader reader, Sheet sheet) {
            knowColumns(sheet);
            lens.forget();
            if (reader.isOver()) {
                return true;
            }
            for (int part = 0; part < MOST_BYTES; part++) {
                if (!readPart(reader)) {
                    return false;
                }
                if (reader.isOver()) {
                    return true;
                }
                if (!reader.takeSign(';')) {
                    return reader.failHere();
                }
            }
            return reader.failHere();
        }

        private boolean readPart(Reader reader) {
            reader.skipBlanks();
            int start = reader.at;
            if (reader.isDigitAt(start)) {
                return readFilter(reader);
            }
            if (reader.takeWord("up")) {
                return readSort(reader, start, 0);
            }
            if (reader.takeWord("down")) {
                return readSort(reader, start, 1);
            }
            if (reader.takeWord("hide")) {
                return readHide(reader);
            }
            return reader.failHere();
        }

        private boolean readColumn(Reader reader) {
            if (!reader.takeNumber(false)) {
                return false;
            }
            return reader.value < columns || reader.failAt(reader.began);
        }

        private boolean readSort(Reader reader, int start, int down) {
            if (lens.sortsTold >= MOST_SORTS) {
                return reader.failAt(start);
            }
            if (!readColumn(reader)) {
                return false;
            }
            if (lens.sortsBy(reader.value)) {
                return reader.failAt(reader.began);
            }
            lens.takeSort(2 * reader.value + down);
            return true;
        }

        private boolean readHide(Reader reader) {
            if (!readColumn(reader)) {
                return false;
            }
            if (lens.hides(reader.value)) {
                return reader.failAt(reader.began);
            }
            lens.hidden |= 1 << reader.value;
            return true;
        }

        private boolean readFilter(Reader reader) {
            if (!readColumn(reader)) {
                return false;
            }
            int column = reader.value;
            Filter filter = lens.filterOf(column);
            if (filter == null || filter.tests > 0) {
                return reader.failAt(reader.began);
            }
            if (!reader.takeSign(':')) {
                return reader.failHere();
            }
            boolean ofNumbers = kindAsked(column) == NUMBERS;
            for (int test = 0; test < MOST_TESTS; test++) {
                int nots = takeNots(reader);
                if (reader.takeWord("blank")) {
                    filter.takeTest(Filter.BLANK, 0, 0, nots);
                } else if (!(ofNumbers ? readRange(reader, filter, nots) : readPattern(reader, filter, nots))) {
                    return false;
                }
                if (!reader.takeWord("or")) {
                    return true;
                }
            }
            reader.skipBlanks();
            return reader.failHere();
        }

        private int takeNots(Reader reader) {
            int nots = 0;
            while (nots < MOST_NOTS && reader.takeWord("not")) {
                nots++;
            }
            return nots;
        }

        private boolean readRange(Reader reader, Filter filter, int nots) {
            if (!reader.takeNumber(true)) {
                return false;
            }
            int low = reader.value;
            if (reader.takeWord("to")) {
                if (!reader.takeNumber(true)) {
                    return false;
                }
                if (reader.value < low) {
                    return reader.failAt(reader.began);
                }
            }
            filter.takeTest(Filter.RANGE, low, reader.value, nots);
            return true;
        }

        private boolean readPattern(Reader reader, Filter filter, int nots) {
            reader.skipBlanks();
            if (reader.isWordHere("or") || reader.isWordHere("to") || reader.isWordHere("not")
                    || reader.isWordHere("up") || reader.isWordHere("down") || reader.isWordHere("hide")) {
                return reader.failHere();
            }
            int start = reader.at;
            int signs = 0;
            int pattern = 0;
            while (signs <= MOST_LETTERS && isPatternSign(reader, start + signs)) {
                pattern = Filter.withSign(pattern, signs, reader.byteAt(start + signs));
                signs++;
            }
            boolean open = reader.byteAt(start + signs) == '*';
            if (signs > MOST_LETTERS || signs == 0 && !open) {
                return reader.failHere();
            }
            reader.at = start + signs + (open ? 1 : 0);
            filter.takeTest(Filter.PATTERN, pattern, open ? 1 : 0, nots);
            return true;
        }

        private boolean isPatternSign(Reader reader, int where) {
            return reader.isLetterAt(where) || reader.byteAt(where) == '?';
        }

        boolean readGrids(Reader reader, Sheet sheet, Lens shownBy, int firstColumn) {
            knowColumns(sheet);
            for (int grid = 0; grid < MOST_GRIDS; grid++) {
                if (!readGrid(reader, shownBy, firstColumn)) {
                    return false;
                }
                if (reader.isOver()) {
                    return true;
                }
                if (!reader.takeSign(';')) {
                    return reader.failHere();
                }
            }
            reader.skipBlanks();
            return reader.failHere();
        }

        private boolean readGrid(Reader reader, Lens shownBy, int firstColumn) {
            beginRow();
            for (int column = firstColumn; column < columns; column++) {
                if (shownBy.hides(column)) {
                    continue;
                }
                if (!reader.takeCell(kindAsked(column))) {
                    return false;
                }
                takeValue(reader.value);
                if (!reader.takeSign(',')) {
                    rowsTold++;
                    return true;
                }
            }
            reader.skipBlanks();
            return reader.failHere();
        }
    }

    /** Rows in an order, told by their seats; no seat stands in it twice. */
    private static final class RowList {
        private final int[] seats = new int[MOST_ROWS];
        private int size;

        int length() {
            return size;
        }

        int at(int place) {
            return place >= 0 && place < size && place < MOST_ROWS ? seats[place] : NONE;
        }

        int placeOf(int seat) {
            for (int place = 0; place < size; place++) {
                if (at(place) == seat) {
                    return place;
                }
            }
            return NONE;
        }

        boolean holds(int seat) {
            return placeOf(seat) != NONE;
        }

        void putAt(int place, int seat) {
            if (place < 0 || place > size || size >= MOST_ROWS) {
                return;
            }
            for (int i = size; i > place; i--) {
                seats[i] = seats[i - 1];
            }
            seats[place] = seat;
            size++;
        }

        void putLast(int seat) {
            putAt(size, seat);
        }

        void takeOut(int seat) {
            int place = placeOf(seat);
            if (place == NONE) {
                return;
            }
            size--;
            for (int i = place; i < size && i + 1 < MOST_ROWS; i++) {
                seats[i] = seats[i + 1];
            }
        }

        void takeAllOut() {
            size = 0;
        }

        void copyFrom(RowList other) {
            System.arraycopy(other.seats, 0, seats, 0, MOST_ROWS);
            size = other.size;
        }
    }

    /** Columns and rows. A row keeps its key; the seat that holds its cells is used again when it is gone. */
    private static final class Sheet {
        private int columns;
        private final int[] kindsTold = new int[MOST_COLUMNS];
        private final int[] keys = new int[MOST_ROWS];
        private final int[] values = new int[MOST_CELLS];
        private final int[] writers = new int[MOST_CELLS];
        private final RowList ordered = new RowList();
        private int texts;
        private int keysSoFar;

        int rowsNow() {
            return ordered.length();
        }

        boolean isColumn(int column) {
            return column >= 0 && column < columns && column < MOST_COLUMNS;
        }

        private boolean isSeat(int seat) {
            return seat >= 0 && seat < MOST_ROWS;
        }

        int kindOf(int column) {
            return isColumn(column) ? kindsTold[column] : NONE;
        }

        int keyAt(int seat) {
            return isSeat(seat) ? keys[seat] : NONE;
        }

        int seatOf(int key) {
            for (int place = 0; place < ordered.length(); place++) {
                int seat = ordered.at(place);
                if (keyAt(seat) == key) {
                    return seat;
                }
            }
            return NONE;
        }

        int valueAt(int seat, int column) {
            return isSeat(seat) && isColumn(column) ? values[seat * MOST_COLUMNS + column] : NOTHING;
        }

        int writerAt(int seat, int column) {
            return isSeat(seat) && isColumn(column) ? writers[seat * MOST_COLUMNS + column] : NONE;
        }

        void write(int seat, int column, int value, int writer) {
            if (isSeat(seat) && isColumn(column)) {
                values[seat * MOST_COLUMNS + column] = value;
                writers[seat * MOST_COLUMNS + column] = writer;
            }
        }

        boolean mayHold(int column, int value) {
            if (kindOf(column) == NUMBERS) {
                return value >= -GREATEST_NUMBER && value <= GREATEST_NUMBER;
            }
            return Filter.isWord(value);
        }

        boolean mayHoldOrBlank(int column, int value) {
            return value == NOTHING || mayHold(column, value);
        }

        /** A seat for a new row, all blank, which stands nowhere yet. */
        int seatNewRow() {
            for (int seat = 0; seat < MOST_ROWS; seat++) {
                if (!ordered.holds(seat)) {
                    keys[seat] = keysSoFar;
                    keysSoFar++;
                    for (int column = 0; column < columns; column++) {
                        write(seat, column, NOTHING, NONE);
                    }
                    return seat;
                }
            }
            return NONE;
        }

        int compareBy(int sort, int seat, int other) {
            int value = valueAt(seat, sort / 2);
            int otherValue = valueAt(other, sort / 2);
            if (value == otherValue) {
                return 0;
            }
            // Blank ones come behind, up and down.
            if (value == NOTHING || otherValue == NOTHING) {
                return value == NOTHING ? 1 : -1;
            }
            boolean down = sort % 2 == 1;
            return value < otherValue != down ? -1 : 1;
        }

        /** The row at a place of a list goes, in the order, to its neighbour in that list. */
        void followList(RowList list, int place) {
            int seat = list.at(place);
            ordered.takeOut(seat);
            if (place > 0) {
                ordered.putAt(ordered.placeOf(list.at(place - 1)) + 1, seat);
            } else {
                ordered.putAt(Math.max(0, ordered.placeOf(list.at(place + 1))), seat);
            }
        }

        void copyFrom(Sheet other) {
            columns = other.columns;
            System.arraycopy(other.kindsTold, 0, kindsTold, 0, MOST_COLUMNS);
            System.arraycopy(other.keys, 0, keys, 0, MOST_ROWS);
            System.arraycopy(other.values, 0, values, 0, MOST_CELLS);
            System.arraycopy(other.writers, 0, writers, 0, MOST_CELLS);
            ordered.copyFrom(other.ordered);
            texts = other.texts;
            keysSoFar = other.keysSoFar;
        }
    }

    /** The tests of one column; without a test there is no filter. */
    private static final class Filter {
        private static final int BLANK = 0;
        private static final int RANGE = 1;
        private static final int PATTERN = 2;
        private static final int ANY = 27;
        private static final int SIGN_BITS = 5;
        private static final int SIGN_MASK = 31;

        private int tests;
        private final int[] forms = new int[MOST_TESTS];
        private final int[] lows = new int[MOST_TESTS];
        private final int[] highs = new int[MOST_TESTS];
        private final int[] turns = new int[MOST_TESTS];

        void takeTest(int form, int low, int high, int nots) {
            if (tests < MOST_TESTS) {
                forms[tests] = form;
                lows[tests] = low;
                highs[tests] = high;
                turns[tests] = nots;
                tests++;
            }
        }

        boolean accepts(int value) {
            for (int test = 0; test < tests && test < MOST_TESTS; test++) {
                boolean turned = turns[test] % 2 == 1;
                if (isAs(test, value) != turned) {
                    return true;
                }
            }
            return tests == 0;
        }

        private boolean isAs(int test, int value) {
            if (test < 0 || test >= MOST_TESTS) {
                return false;
            }
            if (forms[test] == BLANK || value == NOTHING) {
                return forms[test] == BLANK && value == NOTHING;
            }
            if (forms[test] == RANGE) {
                return value >= lows[test] && value <= highs[test];
            }
            return matches(lows[test], highs[test] == 1, value);
        }

        private static boolean matches(int pattern, boolean open, int word) {
            int rest = word;
            for (int i = 0; i < MOST_LETTERS; i++) {
                int sign = pattern >> SIGN_BITS * i & SIGN_MASK;
                int letter = rest / FIRST_UNIT;
                if (sign == 0) {
                    return open || letter == 0;
                }
                if (letter == 0 || sign != ANY && sign != letter) {
                    return false;
                }
                rest = rest % FIRST_UNIT * FIGURES;
            }
            return true;
        }

        /** A pattern with one sign more, a letter or ?, at its place. */
        static int withSign(int pattern, int place, int sign) {
            if (place < 0 || place >= MOST_LETTERS) {
                return pattern;
            }
            return pattern | (sign == '?' ? ANY : sign - 'a' + 1) << SIGN_BITS * place;
        }

        static boolean isWord(int value) {
            if (value < FIRST_UNIT || value >= FIGURES * FIRST_UNIT) {
                return false;
            }
            int rest = value;
            for (int i = 0; i < MOST_LETTERS; i++) {
                boolean ended = rest < FIRST_UNIT;
                if (ended && rest > 0) {
                    return false;
                }
                rest = rest % FIRST_UNIT * FIGURES;
            }
            return true;
        }

        void copyFrom(Filter other) {
            tests = other.tests;
            System.arraycopy(other.forms, 0, forms, 0, MOST_TESTS);
            System.arraycopy(other.lows, 0, lows, 0, MOST_TESTS);
            System.arraycopy(other.highs, 0, highs, 0, MOST_TESTS);
            System.arraycopy(other.turns, 0, turns, 0, MOST_TESTS);
        }
    }

    /** What a view is told as: its filters, its sorts, its hidden columns. */
    private static final class Lens {
        private final Filter[] filters = new Filter[MOST_COLUMNS];
        private final int[] sortCodes = new int[MOST_SORTS];
        private int sortsTold;
        private int hidden;

        Lens() {
            for (int column = 0; column < MOST_COLUMNS; column++) {
                filters[column] = new Filter();
            }
        }

        void forget() {
            for (int column = 0; column < MOST_COLUMNS; column++) {
                filters[column].tests = 0;
            }
            sortsTold = 0;
            hidden = 0;
        }

        Filter filterOf(int column) {
            return column >= 0 && column < MOST_COLUMNS ? filters[column] : null;
        }

        boolean hides(int column) {
            return column >= 0 && column < MOST_COLUMNS && (hidden >> column & 1) == 1;
        }

        int sortAt(int k) {
            return k >= 0 && k < sortsTold && k < MOST_SORTS ? sortCodes[k] : NONE;
        }

        boolean sortsBy(int column) {
            for (int k = 0; k < sortsTold; k++) {
                if (sortAt(k) / 2 == column) {
                    return true;
                }
            }
            return false;
        }

        void takeSort(int sort) {
            if (sortsTold < MOST_SORTS) {
                sortCodes[sortsTold] = sort;
                sortsTold++;
            }
        }

        int filteredBits() {
            int bits = 0;
            for (int column = 0; column < MOST_COLUMNS; column++) {
                if (filters[column].tests > 0) {
                    bits |= 1 << column;
                }
            }
            return bits;
        }

        int firstUnlike(Sheet sheet, int seat) {
            for (int column = 0; column < MOST_COLUMNS; column++) {
                if (!filters[column].accepts(sheet.valueAt(seat, column))) {
                    return column;
                }
            }
            return NONE;
        }

        boolean suits(Sheet sheet, int seat) {
            return firstUnlike(sheet, seat) == NONE;
        }

        boolean isAhead(Sheet sheet, int seat, int other) {
            for (int k = 0; k < sortsTold; k++) {
                int compared = sheet.compareBy(sortAt(k), seat, other);
                if (compared != 0) {
                    return compared < 0;
                }
            }
            return false;
        }

        void copyFrom(Lens other) {
            for (int column = 0; column < MOST_COLUMNS; column++) {
                filters[column].copyFrom(other.filters[column]);
            }
            System.arraycopy(other.sortCodes, 0, sortCodes, 0, MOST_SORTS);
            sortsTold = other.sortsTold;
            hidden = other.hidden;
        }
    }

    /** A view: how it was told, its rows, and its latest edits that can be taken back. */
    private static final class View {
        private final Lens lens = new Lens();
        private final RowList list = new RowList();
        private final Edit[] edits = new Edit[MOST_EDITS];
        private int remembered;

        View() {
            for (int i = 0; i < MOST_EDITS; i++) {
                edits[i] = new Edit();
            }
        }

        Edit latestEdit() {
            return remembered > 0 && remembered <= MOST_EDITS ? edits[remembered - 1] : null;
        }

        void remember(Edit edit) {
            if (remembered >= MOST_EDITS) {
                forgetOldest();
            }
            edits[remembered].copyFrom(edit);
            remembered++;
        }

        private void forgetOldest() {
            Edit oldest = edits[0];
            for (int i = 1; i < MOST_EDITS; i++) {
                edits[i - 1] = edits[i];
            }
            edits[MOST_EDITS - 1] = oldest;
            remembered = MOST_EDITS - 1;
        }

        void forgetLatest() {
            remembered = Math.max(0, remembered - 1);
        }

        void copyFrom(View other) {
            lens.copyFrom(other.lens);
            list.copyFrom(other.list);
            remembered = other.remembered;
            for (int i = 0; i < remembered && i < MOST_EDITS; i++) {
                edits[i].copyFrom(other.edits[i]);
            }
        }
    }

    /** The cells that one edit changed, in the order in which it did. */
    private static final class Edit {
        private int changes;
        private final int[] keys = new int[MOST_CHANGES];
        private final int[] columns = new int[MOST_CHANGES];
        private final int[] were = new int[MOST_CHANGES];
        private final int[] became = new int[MOST_CHANGES];

        void takeChange(int key, int column, int was, int then) {
            if (changes < MOST_CHANGES) {
                keys[changes] = key;
                columns[changes] = column;
                were[changes] = was;
                became[changes] = then;
                changes++;
            }
        }

        int firstBarred(Sheet sheet) {
            for (int i = 0; i < changes && i < MOST_CHANGES; i++) {
                int seat = sheet.seatOf(keys[i]);
                if (seat == NONE || sheet.valueAt(seat, columns[i]) != became[i]) {
                    return keys[i];
                }
            }
            return NONE;
        }

        void copyFrom(Edit other) {
            changes = Math.min(other.changes, MOST_CHANGES);
            System.arraycopy(other.keys, 0, keys, 0, changes);
            System.arraycopy(other.columns, 0, columns, 0, changes);
            System.arraycopy(other.were, 0, were, 0, changes);
            System.arraycopy(other.became, 0, became, 0, changes);
        }
    }

    /** The latest changes of cells, whoever made them; the oldest one gives way. */
    private static final class Log {
        private static final int PARTS = 5;
        private static final int ROOM = 200;

        private final int[] parts = new int[ROOM];
        private int next;
        private int size;

        void takeChange(int view, int key, int column, int was, int then) {
            int start = next * PARTS;
            if (start < 0 || start + PARTS > ROOM) {
                return;
            }
            parts[start] = view;
            parts[start + 1] = key;
            parts[start + 2] = column;
            parts[start + 3] = was;
            parts[start + 4] = then;
            next = (next + 1) % MOST_LOGGED;
            size = Math.min(size + 1, MOST_LOGGED);
        }

        int partOf(int ago, int part) {
            if (ago < 0 || ago >= size || part < 0 || part >= PARTS) {
                return NONE;
            }
            return parts[Math.floorMod(next - 1 - ago, MOST_LOGGED) * PARTS + part];
        }

        void copyFrom(Log other) {
            System.arraycopy(other.parts, 0, parts, 0, ROOM);
            next = other.next;
            size = other.size;
        }
    }

    /** All that an image keeps, and the changes that go through more than one part of it. */
    private static final class State {
        private final Sheet sheet = new Sheet();
        private final View[] views = new View[MOST_VIEWS];
        private final Log log = new Log();
        private final Edit draft = new Edit();

        State() {
            for (int i = 0; i < MOST_VIEWS; i++) {
                views[i] = new View();
            }
        }

        void takeSheetText(Texts told) {
            sheet.columns = told.columns;
            System.arraycopy(told.kindsTold, 0, sheet.kindsTold, 0, MOST_COLUMNS);
            for (int row = 0; row < told.rowsTold; row++) {
                int seat = sheet.seatNewRow();
                for (int column = 0; column < told.widthOf(row); column++) {
                    sheet.write(seat, column, told.toldAt(row, column), NONE);
                }
                sheet.ordered.putLast(seat);
                joinOthers(seat, NONE);
            }
            sheet.texts++;
        }

        /** A new row is put last in the list of each view that it fits, but for the one through which it came. */
        void joinOthers(int seat, int through) {
            for (int i = 0; i < MOST_VIEWS; i++) {
                if (i != through && views[i].lens.firstUnlike(sheet, seat) == NONE) {
                    views[i].list.putLast(seat);
                }
            }
        }

        void removeRow(int seat) {
            sheet.ordered.takeOut(seat);
            for (int i = 0; i < MOST_VIEWS; i++) {
                views[i].list.takeOut(seat);
            }
        }

        void freshInto(Lens lens, RowList fresh) {
            fresh.takeAllOut();
            for (int i = 0; i < sheet.ordered.length(); i++) {
                int seat = sheet.ordered.at(i);
                if (lens.firstUnlike(sheet, seat) == NONE) {
                    int place = fresh.length();
                    while (place > 0 && lens.isAhead(sheet, seat, fresh.at(place - 1))) {
                        place--;
                    }
                    fresh.putAt(place, seat);
                }
            }
        }

        void beginEdit() {
            draft.changes = 0;
        }

        void changeCell(int view, int seat, int column, int value) {
            int was = sheet.valueAt(seat, column);
            if (was != value) {
                int key = sheet.keyAt(seat);
                sheet.write(seat, column, value, view);
                draft.takeChange(key, column, was, value);
                log.takeChange(view, key, column, was, value);
            }
        }

        int finishEdit(int view) {
            if (draft.changes > 0 && view >= 0 && view < MOST_VIEWS) {
                views[view].remember(draft);
            }
            return draft.changes;
        }

        int pasteGrids(Texts told, int view, int place, int column) {
            if (view < 0 || view >= MOST_VIEWS) {
                return 0;
            }
            RowList list = views[view].list;
            int firstNew = list.length();
            beginEdit();
            for (int grid = 0; grid < told.rowsTold; grid++) {
                if (place + grid >= list.length()) {
                    int seat = sheet.seatNewRow();
                    sheet.ordered.putLast(seat);
                    list.putLast(seat);
                }
                pasteGrid(told, grid, view, list.at(place + grid), column);
            }
            for (int i = firstNew; i < list.length(); i++) {
                joinOthers(list.at(i), view);
            }
            return finishEdit(view);
        }

        private void pasteGrid(Texts told, int grid, int view, int seat, int firstColumn) {
            int column = firstColumn;
            for (int i = 0; i < told.widthOf(grid); i++) {
                while (column < MOST_COLUMNS && views[view].lens.hides(column)) {
                    column++;
                }
                changeCell(view, seat, column, told.toldAt(grid, i));
                column++;
            }
        }

        int takeBack(int view, Edit edit) {
            for (int i = 0; i < edit.changes && i < MOST_CHANGES; i++) {
                int key = edit.keys[i];
                int column = edit.columns[i];
                sheet.write(sheet.seatOf(key), column, edit.were[i], view);
                log.takeChange(view, key, column, edit.became[i], edit.were[i]);
            }
            if (view >= 0 && view < MOST_VIEWS) {
                views[view].forgetLatest();
            }
            return edit.changes;
        }

        void copyFrom(State other) {
            sheet.copyFrom(other.sheet);
            for (int i = 0; i < MOST_VIEWS; i++) {
                views[i].copyFrom(other.views[i]);
            }
            log.copyFrom(other.log);
        }
    }

    /** What is asked of a view and its sheet; the rows used for it are made once. */
    private static final class Questions {
        private final RowList fresh = new RowList();
        private final int[] ranks = new int[MOST_ROWS];
        private final int[] longest = new int[MOST_ROWS];
        private final int[] sorted = new int[MOST_ROWS];
        private int sortsNeeded;
        private int firstSort;
        private int secondSort;

        int takeFresh(State state, View seen) {
            state.freshInto(seen.lens, fresh);
            int shared = 0;
            for (int i = 0; i < fresh.length(); i++) {
                if (seen.list.holds(fresh.at(i))) {
                    shared++;
                }
            }
            int changed = fresh.length() + seen.list.length() - 2 * shared;
            seen.list.copyFrom(fresh);
            return changed;
        }

        int staleBits(State state, View seen) {
            int bits = 0;
            for (int place = 0; place < seen.list.length(); place++) {
                if (!seen.lens.suits(state.sheet, seen.list.at(place))) {
                    bits |= 1 << place;
                }
            }
            return bits;
        }

        int pendingBits(State state, View seen) {
            int bits = 0;
            RowList ordered = state.sheet.ordered;
            for (int place = 0; place < ordered.length(); place++) {
                int seat = ordered.at(place);
                if (!seen.list.holds(seat) && seen.lens.suits(state.sheet, seat)) {
                    bits |= 1 << place;
                }
            }
            return bits;
        }

        int freshPlace(State state, View seen, int seat) {
            state.freshInto(seen.lens, fresh);
            return fresh.placeOf(seat);
        }

        /** All rows in both lists but the most that already stand in the order of the fresh one. */
        int fewestMoves(State state, View seen) {
            state.freshInto(seen.lens, fresh);
            int shared = 0;
            int most = 0;
            for (int place = 0; place < seen.list.length(); place++) {
                int rank = fresh.placeOf(seen.list.at(place));
                if (rank != NONE && shared < MOST_ROWS) {
                    ranks[shared] = rank;
                    longest[shared] = 1 + longestBelow(shared);
                    most = Math.max(most, longest[shared]);
                    shared++;
                }
            }
            return shared - most;
        }

        private int longestBelow(int last) {
            int most = 0;
            for (int i = 0; i < last && last < MOST_ROWS; i++) {
                if (ranks[i] < ranks[last]) {
                    most = Math.max(most, longest[i]);
                }
            }
            return most;
        }

        int pairsTurned(RowList list, RowList other) {
            int pairs = 0;
            for (int i = 0; i < list.length(); i++) {
                int place = other.placeOf(list.at(i));
                for (int j = i + 1; place != NONE && j < list.length(); j++) {
                    int later = other.placeOf(list.at(j));
                    if (later != NONE && later < place) {
                        pairs++;
                    }
                }
            }
            return pairs;
        }

        int sortNeeded(int k) {
            return k == 0 ? firstSort : secondSort;
        }

        void tellSorts(Sheet sheet, RowList list) {
            for (int place = 0; place < list.length() && place < MOST_ROWS; place++) {
                ranks[place] = sheet.ordered.placeOf(list.at(place));
            }
            if (isTold(sheet, list, NONE, NONE)) {
                sortsNeeded = 0;
            } else if (tellOneSort(sheet, list)) {
                sortsNeeded = 1;
            } else if (tellTwoSorts(sheet, list)) {
                sortsNeeded = 2;
            } else {
                sortsNeeded = NONE;
            }
        }

        private boolean tellOneSort(Sheet sheet, RowList list) {
            for (int sort = 0; sort < 2 * sheet.columns; sort++) {
                if (isTold(sheet, list, sort, NONE)) {
                    firstSort = sort;
                    return true;
                }
            }
            return false;
        }

        private boolean tellTwoSorts(Sheet sheet, RowList list) {
            for (int first = 0; first < 2 * sheet.columns; first++) {
                for (int second = 0; second < 2 * sheet.columns; second++) {
                    if (first / 2 != second / 2 && isTold(sheet, list, first, second)) {
                        firstSort = first;
                        secondSort = second;
                        return true;
                    }
                }
            }
            return false;
        }

        // Neighbours are enough: what the sorts leave alike must stand as in the order.
        private boolean isTold(Sheet sheet, RowList list, int first, int second) {
            for (int place = 1; place < list.length() && place < MOST_ROWS; place++) {
                int seat = list.at(place - 1);
                int next = list.at(place);
                int compared = first == NONE ? 0 : sheet.compareBy(first, seat, next);
                if (compared == 0 && second != NONE) {
                    compared = sheet.compareBy(second, seat, next);
                }
                if (compared == 0) {
                    compared = ranks[place - 1] - ranks[place];
                }
                if (compared > 0) {
                    return false;
                }
            }
            return true;
        }

        int unseenBetween(RowList ordered, RowList list, int seat, int other) {
            int place = ordered.placeOf(seat);
            int otherPlace = ordered.placeOf(other);
            int unseen = 0;
            for (int i = Math.min(place, otherPlace) + 1; i < Math.max(place, otherPlace); i++) {
                if (!list.holds(ordered.at(i))) {
                    unseen++;
                }
            }
            return unseen;
        }

        int sumOf(Sheet sheet, RowList list, int column) {
            int sum = 0;
            for (int place = 0; place < list.length(); place++) {
                int value = sheet.valueAt(list.at(place), column);
                sum += value == NOTHING ? 0 : value;
            }
            return sum;
        }

        private boolean isAlike(Sheet sheet, RowList list, int column, int place, int other) {
            return sheet.valueAt(list.at(place), column) == sheet.valueAt(list.at(other), column);
        }

        private boolean isFirstLike(Sheet sheet, RowList list, int column, int place) {
            for (int ahead = 0; ahead < place; ahead++) {
                if (isAlike(sheet, list, column, place, ahead)) {
                    return false;
                }
            }
            return true;
        }

        int groupsOf(Sheet sheet, RowList list, int column) {
            int groups = 0;
            for (int place = 0; place < list.length(); place++) {
                if (isFirstLike(sheet, list, column, place)) {
                    groups++;
                }
            }
            return groups;
        }

        int groupStart(Sheet sheet, RowList list, int column, int k) {
            int groups = 0;
            for (int place = 0; place < list.length(); place++) {
                if (isFirstLike(sheet, list, column, place)) {
                    if (groups == k) {
                        return place;
                    }
                    groups++;
                }
            }
            return NONE;
        }

        int rowsLike(Sheet sheet, RowList list, int column, int first) {
            int rows = 0;
            for (int place = first; place < list.length(); place++) {
                if (isAlike(sheet, list, column, place, first)) {
                    rows++;
                }
            }
            return rows;
        }

        int lastLike(Sheet sheet, RowList list, int column, int first) {
            int last = first;
            for (int place = first; place < list.length(); place++) {
                if (isAlike(sheet, list, column, place, first)) {
                    last = place;
                }
            }
            return last;
        }

        int sumLike(Sheet sheet, RowList list, int column, int first, int summed) {
            int sum = 0;
            for (int place = first; place < list.length(); place++) {
                int value = sheet.valueAt(list.at(place), summed);
                if (value != NOTHING && isAlike(sheet, list, column, place, first)) {
                    sum += value;
                }
            }
            return sum;
        }

        int middleOf(Sheet sheet, RowList list, int column) {
            int values = 0;
            for (int place = 0; place < list.length() && values < MOST_ROWS; place++) {
                int value = sheet.valueAt(list.at(place), column);
                if (value != NOTHING) {
                    int i = values;
                    while (i > 0 && sorted[i - 1] > value) {
                        sorted[i] = sorted[i - 1];
                        i--;
                    }
                    sorted[i] = value;
                    values++;
                }
            }
            return values == 0 ? NOTHING : sorted[(values - 1) / 2];
        }

        int repeatedBits(Sheet sheet, View seen) {
            int bits = 0;
            for (int place = 1; place < seen.list.length(); place++) {
                for (int ahead = 0; ahead < place; ahead++) {
                    if (isSeenAlike(sheet, seen, place, ahead)) {
                        bits |= 1 << place;
                    }
                }
            }
            return bits;
        }

        private boolean isSeenAlike(Sheet sheet, View seen, int place, int other) {
            for (int column = 0; column < sheet.columns; column++) {
                if (!seen.lens.hides(column) && !isAlike(sheet, seen.list, column, place, other)) {
                    return false;
                }
            }
            return true;
        }
    }
}
