/** Promise 19 at its edges, and what "Terms" tells of what is pasted. */
public final class EdgePasteTest {
    private static final Due due = new Due("EdgePasteTest");
    private static final int NOTHING = PrivateViews.NOTHING;
    private static final Twins bare = new Twins(due, Samples::bare);
    private static final Twins rich = new Twins(due, Samples::rich);
    private static final Twins full = new Twins(due, Samples::full);
    private static final Twins wide = new Twins(due, EdgePasteTest::five);

    public static void main(String[] args) {
        noPlaces();
        hidden();
        emptyTexts();
        grids();
        widths();
        hiddenWidths();
        values();
        blanks();
        wrongLeavesAll();
        oneCell();
        wholeRows();
        nothingChanged();
        newRows();
        newRowsElsewhere();
        mostGrids();
        mostRows();
        takenBack();
        used();
        due.end();
    }

    /** Five columns, number word number word number; view 1 hides 1 and 3, view 2 hides all but 2. */
    private static PrivateViews five() {
        PrivateViews x = new PrivateViews();
        Due.sheet(x, "columns number word number word number;row 1 a 2 b 3;row 4 b 5 a 6;row . . . . .");
        Due.view(x, 1, "hide 1;hide 3");
        Due.view(x, 2, "hide 0;hide 1;hide 3;hide 4");
        return x;
    }

    private static String cells(PrivateViews x, int key) {
        StringBuilder cells = new StringBuilder();
        for (int column = 0; column < x.count(0); column++) {
            int value = x.cell(key, column);
            cells.append(column == 0 ? "" : " ").append(value == NOTHING ? "." : String.valueOf(value));
        }
        return cells.toString();
    }

    // "IndexOutOfBoundsException: there is no such VIEW, COLUMN, place": the TAPE is used up, no text is read.
    private static void noPlaces() {
        for (String text : new String[] {"1", "", "x"}) {
            for (int n : new int[] {-1, 4, Integer.MAX_VALUE, Integer.MIN_VALUE}) {
                rich.refuseText("19: no view", Twins.NO_PLACE, Samples.FAULT, text, x -> x.paste(n, 0, 0));
            }
            for (int n : new int[] {-1, 3, 24, Integer.MAX_VALUE, Integer.MIN_VALUE}) {
                rich.refuseText("19: no place", Twins.NO_PLACE, Samples.FAULT, text, x -> x.paste(1, n, 0));
                rich.refuseText("19: no place, hidden", Twins.NO_PLACE, Samples.FAULT, text, x -> x.paste(1, n, 1));
            }
            for (int n : new int[] {-1, 3, 5, Integer.MAX_VALUE, Integer.MIN_VALUE}) {
                rich.refuseText("19: no column", Twins.NO_PLACE, Samples.FAULT, text, x -> x.paste(1, 0, n));
            }
            rich.refuseText("19: an empty list", Twins.NO_PLACE, Samples.FAULT, text, x -> x.paste(3, 0, 0));
            bare.refuseText("19: no rows", Twins.NO_PLACE, -1, text, x -> x.paste(0, 0, 0));
        }
        full.refuseText("19: no place", Twins.NO_PLACE, -1, "1", x -> x.paste(0, 24, 0));
    }

    // "IllegalStateException: the COLUMN is HIDDEN (no text is read then)".
    private static void hidden() {
        for (String text : new String[] {"a", "", "?", "a,b,c,d"}) {
            rich.refuseText("19: hidden", Twins.CANNOT, Samples.FAULT, text, x -> x.paste(1, 0, 1));
            rich.refuseText("19: hidden", Twins.CANNOT, Samples.FAULT, text, x -> x.paste(2, 5, 0));
            rich.refuseText("19: hidden", Twins.CANNOT, Samples.FAULT, text, x -> x.paste(2, 0, 2));
        }
    }

    private static void wrong(int fault, String text) {
        wide.wrong("19: wrong", fault, text, x -> x.paste(0, 0, 0));
    }

    private static void wrongAt(int view, int column, int fault, String text) {
        wide.wrong("19: wrong in view " + view + " at " + column, fault, text, x -> x.paste(view, 2, column));
    }

    // "of what is pasted a GRID must come": "the text's length, if more must come".
    private static void emptyTexts() {
        wrong(0, "");
        wrong(1, " ");
        wrong(400, " ".repeat(400));
    }

    // "GRID { ; GRID } (at most 12)": "of a GRID too many, its first byte".
    private static void grids() {
        String twelve = "1;2;3;4;5;6;7;8;9;1;2;3";
        wrong(24, twelve + ";4");
        wrong(26, twelve + " ; 4;5");
        wrong(24, twelve + ";x");
        wrong(24, twelve + ";");
        wrong(25, twelve + "; ");
        wrong(24, twelve + ";;");
        wrong(0, ";");
        wrong(2, "1;");
        wrong(4, "1 ; ");
        wrong(2, "1;;2");
        wrong(2, "1 2");
        wrong(1, "1:2");
        wrong(1, "1x");
        wrong(0, "row 1");
    }

    // "V by V to the COLUMNS that are not HIDDEN, from that one on (one beyond the last of these is wrong at it)".
    private static void widths() {
        wrong(10, "1,a,2,b,3,4");
        wrong(12, "1,a,2,b,3 , 4");
        wrong(10, "1,a,2,b,3,");
        wrong(11, "1,a,2,b,3, ");
        wrong(10, "1,a,2,b,3,.");
        wrong(10, "1,a,2,b,3,;1");
        wrong(12, "1;1,a,2,b,3,x");
        wrong(0, ",1");
        wrong(2, "1,");
        wrong(2, "1,,2");
        wrong(2, "1,;2");
        for (int column = 0; column < 5; column++) {
            String text = "1,a,2,b,3".substring(2 * column);
            wrongAt(0, column, text.length() + 1, text + ",4");
            PrivateViews x = five();
            int n = column;
            due.is("19: to the last column", 5 - n, () -> Due.paste(x, 0, 2, n, text));
            due.is("19: the first column", "1,a,2,b,3".substring(2 * n), () -> pasted(x, 2, n));
        }
    }

    private static String pasted(PrivateViews x, int key, int from) {
        StringBuilder cells = new StringBuilder();
        for (int column = from; column < 5; column++) {
            int value = x.cell(key, column);
            String word = x.kind(column) == 1 ? String.valueOf((char) ('a' + value / 19683 - 1)) : String.valueOf(value);
            cells.append(column == from ? "" : ",").append(word);
        }
        return cells.toString();
    }

    private static void hiddenWidths() {
        wrongAt(1, 0, 6, "1,2,3,4");
        wrongAt(1, 2, 4, "2,3,4");
        wrongAt(1, 4, 2, "3,4");
        wrongAt(1, 0, 2, "1,a");
        wrongAt(2, 2, 2, "1,2");
        wrongAt(2, 2, 2, "1,");
        wrongAt(2, 2, 4, "1;1,.");
        PrivateViews x = five();
        due.is("19: past what is hidden", 3, () -> Due.paste(x, 1, 2, 0, "7,8,9"));
        due.is("19: the row", "7 . 8 . 9", () -> cells(x, 2));
        due.is("19: from the middle", 2, () -> Due.paste(x, 1, 2, 2, "1,."));
        due.is("19: the row", "7 . 1 . .", () -> cells(x, 2));
        due.is("19: one column alone", 2, () -> Due.paste(x, 2, 1, 2, "-5;-6"));
        due.is("19: the row", "7 . -6 . .", () -> cells(x, 2));
    }

    // "each as its COLUMN asks"
    private static void values() {
        wrong(0, "a");
        wrong(0, "1000");
        wrong(0, "-1000");
        wrong(1, "-");
        wrong(1, "- 1");
        wrong(2, "1,1");
        wrong(2, "1,-");
        wrong(2, "1,abcde");
        wrong(3, "1,aA");
        wrong(2, "1,?");
        wrong(3, "1,a*");
        wrong(2, "1;a");
        wrong(4, "1,a;a");
        wrong(4, "1,a,a");
        for (String text : new String[] {"999,zzzz", "-999,a", ".,.", "0,to", "-0,not", "007,hide"}) {
            PrivateViews x = five();
            due.is("19: right [" + text + "]", true, () -> Due.paste(x, 0, 0, 0, text) >= 0);
            due.is("6: no fault [" + text + "]", -1, x::fault);
        }
    }

    private static void blanks() {
        PrivateViews x = five();
        due.is("19: blanks between all", 4, () -> Due.paste(x, 0, 1, 0, "  7  ,  c  ;  -8  ,  d  "));
        due.is("19: the row", "7 " + Due.word("c") + " 5 " + Due.word("a") + " 6", () -> cells(x, 1));
        due.is("19: the row", "-8 " + Due.word("d") + " . . .", () -> cells(x, 2));
        wrong(0, "\t1");
        wrong(1, "1\t");
        wrong(2, "1,\n");
    }

    // "Of a wrong text nothing stays", new rows neither.
    private static void wrongLeavesAll() {
        rich.wrong("19: wrong", 6, "9,9;9,x", x -> x.paste(1, 0, 0));
        rich.wrong("19: wrong", 12, "9,9;9,9;9,9;x", x -> x.paste(1, 2, 0));
        rich.wrong("19: wrong", 8, "9,9;9,9;", x -> x.paste(1, 2, 0));
        rich.wrong("19: wrong", 2, "z,z", x -> x.paste(2, 0, 1));
        wide.wrong("19: wrong", 4, "9;9;", x -> x.paste(0, 0, 0));
    }

    private static void oneCell() {
        PrivateViews x = Samples.rich();
        x.end(0);
        due.is("19: one cell", 1, () -> Due.paste(x, 1, 2, 0, "-999"));
        due.is("8: the cell", -999, () -> x.cell(4, 0));
        due.is("36: by", 1, () -> x.by(4, 0));
        due.is("43: the log", "1 4 0 9 -999", () -> Due.log(x, 0));
        due.is("12: an edit", 3, () -> x.about(1, 4));
        due.is("19: a blank one", 1, () -> Due.paste(x, 1, 2, 0, "."));
        due.is("8: the cell", NOTHING, () -> x.cell(4, 0));
    }

    // "the first GRID to the ROW at that place, the next to the next one of THE LIST"; the log by ROWS, then COLUMNS.
    private static void wholeRows() {
        PrivateViews x = Samples.rich();
        x.end(0);
        due.is("10: the list", "4 0 2 1 3 6", () -> Due.list(x, 2));
        due.is("19: by places", 3, () -> Due.paste(x, 2, 1, 1, "p;q;r"));
        due.is("19: the rows", Due.word("p") + " " + Due.word("q") + " " + Due.word("r"), () -> x.cell(0, 1) + " "
                + x.cell(2, 1) + " " + x.cell(1, 1));
        due.is("19: rows that are not seen stay", 4, () -> Due.paste(x, 1, 0, 0, "1,10;2,20"));
        due.is("8: the rows", "1 10 2 20", () -> x.cell(0, 0) + " " + x.cell(0, 2) + " " + x.cell(2, 0) + " "
                + x.cell(2, 2));
        due.is("8: not seen", "5 " + NOTHING, () -> x.cell(1, 0) + " " + x.cell(6, 0));
        due.is("43: by rows, then by columns", "2 2,2 0,0 2,0 0", () -> logged(x, 0) + "," + logged(x, 1) + ","
                + logged(x, 2) + "," + logged(x, 3));
        due.is("19: grids of unlike lengths", 4, () -> Due.paste(x, 0, 0, 0, "9,s,9;9"));
        due.is("8: the second one's others stay", NOTHING, () -> x.cell(6, 1));
    }

    private static String logged(PrivateViews x, int ago) {
        return x.log(ago, 1) + " " + x.log(ago, 2);
    }

    // "An EDIT that changes no CELL is none": but new rows come.
    private static void nothingChanged() {
        PrivateViews x = Samples.rich();
        x.end(0);
        int logged = x.count(4);
        due.is("19: what is there", 0, () -> Due.paste(x, 1, 1, 0, "5,1;9,5"));
        due.is("12: no edit", 2, () -> x.about(1, 4));
        due.is("36: by", "-1 1", () -> x.by(2, 0) + " " + x.by(2, 2));
        due.is("19: blank new rows", 0, () -> Due.paste(x, 1, 2, 0, "9,5;.,.;."));
        due.is("12: no edit", 2, () -> x.about(1, 4));
        due.is("46: no log", logged, () -> x.count(4));
        due.is("19: new rows", "0 2 4 7 8", () -> Due.list(x, 1));
        due.is("36: by none", "-1 -1", () -> x.by(7, 0) + " " + x.by(8, 0));
        due.is("46: keys", 9, () -> x.count(3));
    }

    // "GRIDS beyond the last of THE LIST: new ROWS (all else BLANK), last in THE ORDER and in this LIST".
    private static void newRows() {
        PrivateViews x = Samples.rich();
        x.end(0);
        due.is("19: the last place and two beyond", 4, () -> Due.paste(x, 1, 2, 0, "9,6;1,.;2,2"));
        due.is("9: last in the order", "0 6 1 2 3 4 7 8", () -> Due.order(x));
        due.is("10: last in the list, though they do not fit", "0 2 4 7 8", () -> Due.list(x, 1));
        due.is("8: all else is blank", "1 . .|2 . 2", () -> cells(x, 7) + "|" + cells(x, 8));
        due.is("36: by", "1 -1 -1 1", () -> x.by(7, 0) + " " + x.by(7, 1) + " " + x.by(7, 2) + " " + x.by(8, 2));
        due.is("43: from blank", "1 8 2 " + NOTHING + " 2", () -> Due.log(x, 0));
        due.is("27: they are stale", 1 + 8 + 16, () -> x.stale(1));
    }

    // "then, when all is pasted, each of these, by KEYS, is put last in THE LIST of each other VIEW that it FITS".
    private static void newRowsElsewhere() {
        PrivateViews x = new PrivateViews();
        Due.sheet(x, "columns number number;row 1 1;row 2 2;row 5 5");
        Due.view(x, 1, "0:1;1:not blank");
        Due.view(x, 2, "down 0;0:3 to 9");
        Due.view(x, 3, "0:blank;hide 0");
        due.is("19: paste", 8, () -> Due.paste(x, 0, 2, 0, "1,7;4,4;9;1,3;.,8"));
        due.is("10: this list", "0 1 2 3 4 5 6", () -> Due.list(x, 0));
        due.is("10: where all that is pasted fits", "0 5", () -> Due.list(x, 1));
        due.is("10: by keys, not sorted", "2 3 4", () -> Due.list(x, 2));
        due.is("10: blank", "6", () -> Due.list(x, 3));
        due.is("28: a row that was there is pending", 4, () -> x.pending(1));
        due.is("27: and stale", 1, () -> x.stale(2));
        PrivateViews y = five();
        Due.view(y, 3, "2:5");
        due.is("19: through a view that hides", 2, () -> Due.paste(y, 2, 2, 2, "1;5"));
        due.is("10: where it fits", "1 3", () -> Due.list(y, 3));
    }

    private static void mostGrids() {
        PrivateViews x = five();
        String row = "9,z,9,z,9";
        due.is("19: twelve grids of five", 60, () -> Due.paste(x, 0, 0, 0, row + (";" + row).repeat(11)));
        due.is("46: rows", 12, () -> x.count(1));
        due.is("46: the log", 40, () -> x.count(4));
        due.is("43: the oldest of them", "0 4 0", () -> x.log(39, 0) + " " + x.log(39, 1) + " " + x.log(39, 2));
        due.is("24: all of them", 60, () -> x.undo(0));
        due.is("8: the first", "1 " + Due.word("a") + " 2 " + Due.word("b") + " 3", () -> cells(x, 0));
        due.is("8: the last", ". . . . .", () -> cells(x, 11));
        due.is("46: rows stay", 12, () -> x.count(1));
    }

    // "UnsupportedOperationException: there would be more than 24 ROWS".
    private static void mostRows() {
        full.refuseText("19: a 25th row", Twins.UNSUPPORTED, -1, "1;2", x -> x.paste(0, 23, 0));
        full.refuseText("19: a 25th row", Twins.UNSUPPORTED, -1, ".;.", x -> x.paste(0, 23, 0));
        full.refuseText("19: a 25th row", Twins.UNSUPPORTED, -1, "1;2;3;4;5", x -> x.paste(1, 0, 0));
        full.wrong("19: a wrong text is told first", 4, "1;2;x", x -> x.paste(0, 23, 0));
        PrivateViews x = Samples.full();
        due.is("19: within 24", 12, () -> Due.paste(x, 0, 12, 0, "0;1;2;3;4;5;6;7;8;9;10;11"));
        due.is("19: the last alone", 1, () -> Due.paste(x, 0, 23, 0, "99"));
        due.is("19: in a list of four", 4, () -> Due.paste(x, 1, 0, 0, "1;2;3;4"));
        x.drop(0, 5);
        Twins fewer = new Twins(due, EdgePasteTest::twentyThree);
        fewer.refuseText("19: a 25th row", Twins.UNSUPPORTED, -1, "1;2;3", y -> y.paste(0, 22, 0));
        due.is("19: the 24th row", 2, () -> Due.paste(x, 0, 22, 0, "98;97"));
        due.is("46: rows", 24, () -> x.count(1));
        due.is("46: keys", 25, () -> x.count(3));
    }

    private static PrivateViews twentyThree() {
        PrivateViews x = Samples.full();
        x.drop(0, 5);
        return x;
    }

    // "(New ROWS of PASTED stay.)"
    private static void takenBack() {
        PrivateViews x = Samples.rich();
        x.end(0);
        Due.paste(x, 1, 2, 0, "3,3;1,1;2,2");
        due.is("24: taken back", 6, () -> x.undo(1));
        due.is("8: as it was", "9 " + Due.word("z") + " 5", () -> cells(x, 4));
        due.is("8: blank", ". . .|. . .", () -> cells(x, 7) + "|" + cells(x, 8));
        due.is("10: they stay", "0 2 4 7 8", () -> Due.list(x, 1));
        due.is("36: by", 1, () -> x.by(7, 0));
        Due.paste(x, 1, 4, 0, "3;4");
        x.drop(1, 5);
        due.is("41: a new row that is gone", 9, () -> x.barred(1));
        due.cannot("24: it cannot be", () -> x.undo(1));
    }

    // "Uses the TAPE up".
    private static void used() {
        PrivateViews x = Samples.rich();
        x.end(0);
        Due.paste(x, 1, 0, 0, "3");
        due.is("19: the tape is used up", false, () -> x.end(1));
        due.is("2: and begins anew", 20, () -> x.feed(0, 0, 0, 0, 0));
    }
}
