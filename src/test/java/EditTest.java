/** Promises 14 to 24, 36, 41 and 43: edits, rows, what is taken back, the log. */
public final class EditTest {
    private static final Due due = new Due("EditTest");
    private static final int NOTHING = PrivateViews.NOTHING;

    public static void main(String[] args) {
        setting();
        clearing();
        filling();
        replacing();
        swapping();
        pasting();
        pastingNewRows();
        pasteFaults();
        adding();
        dropping();
        dragging();
        refreshing();
        takingBack();
        barring();
        remembering();
        logging();
        due.end();
    }

    /** Rows 0 (5 a 1), 1 (2 b .), 2 (5 c 3), 3 (. d 4), 4 (9 e 5); view 0 plain, view 1 of 5 and 9 with column 1 hidden. */
    private static PrivateViews sample() {
        PrivateViews x = new PrivateViews();
        Due.sheet(x, "columns number word number;row 5 a 1;row 2 b .;row 5 c 3;row . d 4;row 9 e 5");
        Due.view(x, 1, "0:5 or 9;hide 1");
        return x;
    }

    private static String column(PrivateViews x, int column) {
        StringBuilder values = new StringBuilder();
        for (int i = 0; x.order(i) >= 0; i++) {
            int value = x.cell(x.order(i), column);
            values.append(i == 0 ? "" : " ").append(value == NOTHING ? "." : String.valueOf(value));
        }
        return values.toString();
    }

    private static void setting() {
        PrivateViews x = sample();
        due.is("set goes to the row at the place", 4, () -> x.set(1, 2, 0, -999));
        due.is("cells", "5 2 5 . -999", () -> column(x, 0));
        due.is("the list stays", "0 2 4", () -> Due.list(x, 1));
        due.is("by", 1, () -> x.by(4, 0));
        due.is("by of another cell", -1, () -> x.by(4, 2));
        due.is("the same again by another", 4, () -> x.set(0, 4, 0, -999));
        due.is("changes nothing", 1, () -> x.by(4, 0));
        due.is("and is no edit", 0, () -> x.about(0, 4));
        due.is("a word", 0, () -> x.set(0, 0, 1, 531440));
        due.is("the word", 531440, () -> x.cell(0, 1));
        due.is("the least word", 0, () -> x.set(0, 0, 1, 19683));
        due.noNumber("1000", () -> x.set(0, 0, 0, 1000));
        due.noNumber("-1000", () -> x.set(0, 0, 0, -1000));
        due.noNumber("NOTHING", () -> x.set(0, 0, 0, NOTHING));
        due.noNumber("NOTHING as a word", () -> x.set(0, 0, 1, NOTHING));
        due.noNumber("no word: 0", () -> x.set(0, 0, 1, 0));
        due.noNumber("no word: 531441", () -> x.set(0, 0, 1, 531441));
        due.noNumber("no first letter", () -> x.set(0, 0, 1, 19682));
        due.noNumber("a hole", () -> x.set(0, 0, 1, 19683 + 27));
        due.noNumber("a hole", () -> x.set(0, 0, 1, 19683 + 1));
        due.noNumber("a hole", () -> x.set(0, 0, 1, 19683 + 729 + 1));
        due.noNumber("below", () -> x.set(0, 0, 1, -19683));
        due.cannot("hidden", () -> x.set(1, 0, 1, 7));
        due.noPlace("no view", () -> x.set(4, 0, 1, 7));
        due.noPlace("no place", () -> x.set(1, 3, 1, 7));
        due.noPlace("no place", () -> x.set(1, -1, 1, 7));
        due.noPlace("no column", () -> x.set(1, 0, 3, 7));
        due.noPlace("no column", () -> x.set(1, 0, -1, 7));
    }

    private static void clearing() {
        PrivateViews x = sample();
        due.is("clear", 2, () -> x.clear(1, 1, 2));
        due.is("cells", "1 . . 4 5", () -> column(x, 2));
        due.is("by", 1, () -> x.by(2, 2));
        due.is("clear again", 2, () -> x.clear(0, 2, 2));
        due.is("is none", 0, () -> x.about(0, 4));
        due.cannot("hidden", () -> x.clear(1, 1, 1));
        due.noPlace("no place", () -> x.clear(1, 3, 1));
        due.noPlace("no column", () -> x.clear(1, 0, 3));
        due.noPlace("no view", () -> x.clear(-1, 0, 0));
    }

    private static void filling() {
        PrivateViews x = sample();
        due.is("fill over what is seen", 2, () -> x.fill(1, 0, 2, 2));
        due.is("cells", "1 . 1 4 1", () -> column(x, 2));
        due.is("fill with blank", 3, () -> x.fill(0, 1, 4, 2));
        due.is("cells", "1 . . . .", () -> column(x, 2));
        due.is("fill one place", 0, () -> x.fill(0, 1, 1, 2));
        due.is("is no edit", 1, () -> x.about(0, 4));
        due.noNumber("to is less", () -> x.fill(0, 2, 1, 0));
        due.noNumber("to is less, told ahead of hidden", () -> x.fill(1, 2, 1, 1));
        due.cannot("hidden", () -> x.fill(1, 1, 2, 1));
        due.noPlace("no place from", () -> x.fill(1, 3, 2, 1));
        due.noPlace("no place to", () -> x.fill(1, 2, 3, 0));
        due.noPlace("no place to", () -> x.fill(1, 2, -1, 0));
        due.noPlace("no column", () -> x.fill(1, 2, 1, 5));
        due.noPlace("no view", () -> x.fill(5, 2, 1, 0));
    }

    private static void replacing() {
        PrivateViews x = sample();
        Due.view(x, 2, "1:not c");
        due.is("replace what is seen", 1, () -> x.replace(2, 0, 5, 7));
        due.is("cells", "7 2 5 . 9", () -> column(x, 0));
        due.is("blank by", 1, () -> x.replace(0, 2, NOTHING, -1));
        due.is("cells", "1 -1 3 4 5", () -> column(x, 2));
        due.is("by blank", 1, () -> x.replace(0, 2, 4, NOTHING));
        due.is("cells", "1 -1 3 . 5", () -> column(x, 2));
        due.is("by itself", 0, () -> x.replace(0, 2, 5, 5));
        due.is("none such", 0, () -> x.replace(0, 2, 77, 5));
        due.is("words", 1, () -> x.replace(0, 1, Due.word("a"), Due.word("to")));
        due.cannot("hidden, and no number", () -> x.replace(1, 1, 5, 5));
        due.noNumber("no value", () -> x.replace(0, 0, 1000, 5));
        due.noNumber("no value by", () -> x.replace(0, 0, 5, -1000));
        due.noNumber("no word", () -> x.replace(0, 1, 5, NOTHING));
        due.noPlace("no column", () -> x.replace(0, 3, 5, 5));
        due.noPlace("no view", () -> x.replace(4, 0, 5, 5));
    }

    private static void swapping() {
        PrivateViews x = sample();
        due.is("swap", 2, () -> x.swap(1, 2, 0, 0));
        due.is("cells", "9 2 5 . 5", () -> column(x, 0));
        due.is("the first place's last in the log", "1 0 0 5 9", () -> Due.log(x, 0));
        due.is("the first place's first", "1 4 0 9 5", () -> Due.log(x, 1));
        due.is("swap with blank", 2, () -> x.swap(0, 1, 2, 2));
        due.is("cells", "1 3 . 4 5", () -> column(x, 2));
        due.is("swap what is like", 0, () -> x.swap(0, 2, 4, 0));
        due.noNumber("both are one", () -> x.swap(0, 2, 2, 0));
        due.noNumber("both are one, told ahead of hidden", () -> x.swap(1, 2, 2, 1));
        due.cannot("hidden", () -> x.swap(1, 1, 2, 1));
        due.noPlace("no place", () -> x.swap(1, 3, 3, 0));
        due.noPlace("no other place", () -> x.swap(1, 0, 3, 0));
        due.noPlace("no column", () -> x.swap(1, 0, 0, 3));
        due.noPlace("no view", () -> x.swap(9, 0, 1, 0));
    }

    private static void pasting() {
        PrivateViews x = sample();
        due.is("paste over what is seen, past what is hidden", 3, () -> Due.paste(x, 1, 1, 0, " 7 , 8;9,.  "));
        due.is("cells", "5 2 7 . 9", () -> column(x, 0));
        due.is("cells", "1 . 8 4 .", () -> column(x, 2));
        due.is("the log, by rows, then by columns", "1 4 2 5 " + NOTHING, () -> Due.log(x, 0));
        due.is("the log", "1 2 2 3 8", () -> Due.log(x, 1));
        due.is("the log", "1 2 0 5 7", () -> Due.log(x, 2));
        due.is("taken back at once", 3, () -> x.undo(1));
        due.is("cells", "5 2 5 . 9", () -> column(x, 0));
        due.is("cells", "1 . 3 4 5", () -> column(x, 2));
        due.is("what changes nothing", 0, () -> Due.paste(x, 0, 0, 0, "5,a;2;5"));
        due.is("is no edit", 0, () -> x.about(0, 4));
        due.is("words", 2, () -> Due.paste(x, 0, 0, 1, "to,-7"));
        due.is("the word", Due.word("to"), () -> x.cell(0, 1));
    }

    private static void pastingNewRows() {
        PrivateViews x = sample();
        Due.view(x, 2, "0:1 to 3;up 0");
        Due.view(x, 3, "2:4 or blank");
        due.is("changed cells, new rows' too", 6, () -> Due.paste(x, 1, 2, 0, "3,4;2,3;.,.;1,4"));
        due.is("order", "0 1 2 3 4 5 6 7", () -> Due.order(x));
        due.is("this list", "0 2 4 5 6 7", () -> Due.list(x, 1));
        due.is("other lists", "0 1 2 3 4 5 6 7", () -> Due.list(x, 0));
        due.is("where it fits", "1 5 7", () -> Due.list(x, 2));
        due.is("where it fits, and what came to fit stays away", "1 3 6 7", () -> Due.list(x, 3));
        due.is("all else is blank", NOTHING, () -> x.cell(5, 1));
        due.is("by", "1 1 -1", () -> x.by(5, 0) + " " + x.by(5, 2) + " " + x.by(5, 1));
        due.is("by of what stayed blank", -1, () -> x.by(6, 0));
        due.is("taken back", 6, () -> x.undo(1));
        due.is("new rows stay", "0 2 4 5 6 7", () -> Due.list(x, 1));
        due.is("and are blank", "5 2 5 . 9 . . .", () -> column(x, 0));
        PrivateViews y = new PrivateViews();
        Due.sheet(y, "columns number;row 1");
        due.is("a blank row is made, and nothing changed", 0, () -> Due.paste(y, 0, 0, 0, "1;."));
        due.is("two rows", 2, () -> y.count(1));
        due.is("no edit", 0, () -> y.about(0, 4));
        due.is("12 grids", 12, () -> Due.paste(y, 0, 1, 0, "1;2;3;4;5;6;7;8;9;10;11;12"));
        due.is("rows", 13, () -> y.count(1));
        due.is("to 24 rows", 12, () -> Due.paste(y, 0, 12, 0, "1;2;3;4;5;6;7;8;9;10;11;13"));
        due.is("rows", 24, () -> y.count(1));
        due.unsupported("a 25th row", () -> Due.paste(y, 0, 23, 0, "5;6"));
        due.is("its text was read", -1, y::fault);
        due.is("nothing was pasted", 13, () -> y.cell(23, 0));
        due.noNumber("a wrong text is told first", () -> Due.paste(y, 0, 23, 0, "5;x"));
        due.is("keys", 24, () -> y.count(3));
    }

    private static void pasteFault(PrivateViews x, int column, int at, String text) {
        due.noNumber("paste " + text, () -> Due.paste(x, 1, 2, column, text));
        due.is("fault of " + text, at, x::fault);
        due.is("nothing is pasted", 5, () -> x.count(1));
    }

    private static void pasteFaults() {
        PrivateViews x = sample();
        pasteFault(x, 0, 0, "");
        pasteFault(x, 0, 2, "  ");
        pasteFault(x, 0, 0, ";");
        pasteFault(x, 0, 2, "1;");
        pasteFault(x, 0, 2, "1,");
        pasteFault(x, 0, 2, "1,;");
        pasteFault(x, 0, 2, "1,a");
        pasteFault(x, 0, 4, "1,2,3");
        pasteFault(x, 0, 5, "1,2, ");
        pasteFault(x, 2, 2, "1,2");
        pasteFault(x, 2, 2, "1 2");
        pasteFault(x, 0, 2, "1,1000");
        pasteFault(x, 0, 1, "- 1");
        pasteFault(x, 0, 24, "1;2;3;4;5;6;7;8;9;1;2;3;4");
        pasteFault(x, 0, 24, "1;2;3;4;5;6;7;8;9;1;2;3;");
        due.is("the cells stay", "5 2 5 . 9", () -> column(x, 0));
        due.cannot("hidden", () -> Due.paste(x, 1, 0, 1, "1"));
        due.noPlace("no place", () -> Due.paste(x, 1, 3, 1, "1"));
        due.noPlace("no place", () -> Due.paste(x, 1, -1, 0, "1"));
        due.noPlace("no column", () -> Due.paste(x, 1, 0, 3, "1"));
        due.noPlace("no view", () -> Due.paste(x, 4, 0, 0, "1"));
    }

    private static void adding() {
        PrivateViews x = sample();
        Due.view(x, 2, "0:blank or 2");
        due.is("add behind a place", 5, () -> x.add(1, 1));
        due.is("its list, though it does not fit", "0 2 5 4", () -> Due.list(x, 1));
        due.is("stale", 4, () -> x.stale(1));
        due.is("the order", "0 1 2 5 3 4", () -> Due.order(x));
        due.is("last elsewhere", "0 1 2 3 4 5", () -> Due.list(x, 0));
        due.is("last where it fits", "1 3 5", () -> Due.list(x, 2));
        due.is("blank", NOTHING, () -> x.cell(5, 0));
        due.is("add ahead of all", 6, () -> x.add(1, -1));
        due.is("its list", "6 0 2 5 4", () -> Due.list(x, 1));
        due.is("the order", "6 0 1 2 5 3 4", () -> Due.order(x));
        due.is("no edit", 0, () -> x.about(1, 4));
        due.is("no log", 0, () -> x.count(4));
        due.is("by", -1, () -> x.by(6, 0));
        due.noPlace("no place", () -> x.add(1, 5));
        due.noPlace("no place", () -> x.add(1, -2));
        due.noPlace("no view", () -> x.add(4, -1));
        due.is("behind the last", 7, () -> x.add(1, 4));
        due.is("its list", "6 0 2 5 4 7", () -> Due.list(x, 1));
        for (int i = 8; i < 24; i++) {
            int key = i;
            due.is("add", key, () -> x.add(0, 0));
        }
        due.unsupported("a 25th row", () -> x.add(0, 0));
        due.noPlace("no place is told first", () -> x.add(0, 24));
        PrivateViews y = new PrivateViews();
        due.unsupported("no columns", () -> y.add(0, -1));
        due.noPlace("no place, no columns", () -> y.add(0, 0));
        Due.sheet(y, "columns word");
        Due.view(y, 1, "0:blank");
        Due.view(y, 2, "0:a");
        due.is("the first row", 0, () -> y.add(2, -1));
        due.is("lists", "0,0,0,0", () -> Due.list(y, 0) + "," + Due.list(y, 1) + "," + Due.list(y, 2) + ","
                + Due.list(y, 3));
    }

    private static void dropping() {
        PrivateViews x = sample();
        due.is("drop", 2, () -> x.drop(1, 1));
        due.is("its list", "0 4", () -> Due.list(x, 1));
        due.is("other lists", "0 1 3 4", () -> Due.list(x, 0));
        due.is("the order", "0 1 3 4", () -> Due.order(x));
        due.noPlace("the key is gone", () -> x.cell(2, 0));
        due.noPlace("the key is gone", () -> x.place(0, 2));
        due.noPlace("the key is gone", () -> x.by(2, 0));
        due.noPlace("the key is gone", () -> x.fits(0, 2));
        due.is("rows", 4, () -> x.count(1));
        due.is("keys so far", 5, () -> x.count(3));
        due.noPlace("no place", () -> x.drop(1, 2));
        due.noPlace("no view", () -> x.drop(-1, 0));
        due.is("a new key", 5, () -> x.add(1, 1));
        due.is("blank", NOTHING, () -> x.cell(5, 0));
        due.is("by none", -1, () -> x.by(5, 0));
    }

    private static void dragging() {
        PrivateViews x = sample();
        due.is("drag down", 0, () -> x.drag(1, 0, 1));
        due.is("its list", "2 0 4", () -> Due.list(x, 1));
        due.is("the order, right behind", "1 2 0 3 4", () -> Due.order(x));
        due.is("other lists stay", "0 1 2 3 4", () -> Due.list(x, 0));
        due.is("drag to the first place", 4, () -> x.drag(1, 2, 0));
        due.is("its list", "4 2 0", () -> Due.list(x, 1));
        due.is("the order, right ahead", "1 4 2 0 3", () -> Due.order(x));
        due.is("drag to the last place", 4, () -> x.drag(1, 0, 2));
        due.is("its list", "2 0 4", () -> Due.list(x, 1));
        due.is("the order", "1 2 0 4 3", () -> Due.order(x));
        due.noNumber("both are one", () -> x.drag(1, 1, 1));
        due.noPlace("no place from", () -> x.drag(1, 3, 3));
        due.noPlace("no place to", () -> x.drag(1, 0, 3));
        due.noPlace("no place to", () -> x.drag(1, 0, -1));
        due.noPlace("no view", () -> x.drag(4, 0, 1));
        due.is("no edit", 0, () -> x.about(1, 4));
    }

    private static void refreshing() {
        PrivateViews x = sample();
        x.set(0, 0, 0, 6);
        x.set(0, 3, 0, 9);
        due.is("the list stays", "0 2 4", () -> Due.list(x, 1));
        due.is("stale", 1, () -> x.stale(1));
        due.is("pending", 8, () -> x.pending(1));
        due.is("one came, one went", 2, () -> x.refresh(1));
        due.is("the list", "2 3 4", () -> Due.list(x, 1));
        due.is("nothing came", 0, () -> x.refresh(1));
        Due.view(x, 0, "down 0");
        x.drag(0, 0, 4);
        due.is("only the order changes", 0, () -> x.refresh(0));
        due.is("the list", "3 4 0 2 1", () -> Due.list(x, 0));
        due.noPlace("no view", () -> x.refresh(4));
    }

    private static void takingBack() {
        PrivateViews x = sample();
        due.cannot("no edit", () -> x.undo(0));
        due.noPlace("no view", () -> x.undo(4));
        x.set(1, 0, 0, 7);
        x.fill(1, 0, 2, 2);
        due.is("edits", 2, () -> x.about(1, 4));
        due.is("the latest", 2, () -> x.undo(1));
        due.is("cells", "1 . 3 4 5", () -> column(x, 2));
        due.is("by", 1, () -> x.by(2, 2));
        due.is("edits", 1, () -> x.about(1, 4));
        due.is("the log has it", "1 4 2 1 5", () -> Due.log(x, 0));
        due.is("in the order in which it was changed", "1 2 2 1 3", () -> Due.log(x, 1));
        x.set(0, 0, 0, 8);
        due.cannot("another wrote over it", () -> x.undo(1));
        due.is("edits could be taken back but for others", 1, () -> x.about(1, 4));
        due.is("barred", 0, () -> x.barred(1));
        due.is("the other takes back", 1, () -> x.undo(0));
        due.is("by", 0, () -> x.by(0, 0));
        due.is("then this one can", 1, () -> x.undo(1));
        due.is("cell", 5, () -> x.cell(0, 0));
        due.is("by", 1, () -> x.by(0, 0));
        x.set(1, 0, 0, 7);
        Due.view(x, 1, "hide 0; 0 : 99");
        due.is("a view told anew takes back, too", 1, () -> x.undo(1));
        due.is("cell", 5, () -> x.cell(0, 0));
    }

    private static void barring() {
        PrivateViews x = sample();
        due.is("none without an edit", -1, () -> x.barred(0));
        x.fill(0, 0, 4, 0);
        due.is("not barred", -1, () -> x.barred(0));
        x.set(1, 2, 0, 3);
        due.is("barred", 4, () -> x.barred(0));
        x.set(2, 1, 0, 3);
        due.is("the first", 1, () -> x.barred(0));
        x.set(3, 1, 0, 5);
        due.is("as it was left", 4, () -> x.barred(0));
        x.drop(2, 3);
        due.is("gone", 3, () -> x.barred(0));
        due.cannot("gone", () -> x.undo(0));
        due.noPlace("no view", () -> x.barred(4));
        x.set(0, 0, 2, 9);
        due.is("of the latest alone", -1, () -> x.barred(0));
        due.is("which can be taken back", 1, () -> x.undo(0));
        due.cannot("and the next cannot", () -> x.undo(0));
    }

    private static void remembering() {
        PrivateViews x = new PrivateViews();
        Due.sheet(x, "columns number;row 0");
        for (int i = 1; i <= 10; i++) {
            x.set(0, 0, 0, i);
        }
        due.is("eight are remembered", 8, () -> x.about(0, 4));
        for (int i = 9; i >= 2; i--) {
            int left = i;
            due.is("undo", 1, () -> x.undo(0));
            due.is("cell", left, () -> x.cell(0, 0));
        }
        due.cannot("the ninth", () -> x.undo(0));
        due.is("none", 0, () -> x.about(0, 4));
        x.set(0, 0, 0, 50);
        due.is("one", 1, () -> x.about(0, 4));
        due.is("undo", 1, () -> x.undo(0));
        due.is("cell", 2, () -> x.cell(0, 0));
    }

    private static void logging() {
        PrivateViews x = new PrivateViews();
        Due.sheet(x, "columns number word;row 0 .;row 0 .");
        due.is("none", -1, () -> x.log(0, 4));
        for (int i = 1; i <= 45; i++) {
            x.set(i % 4, i % 2, 0, i);
            int rows = Math.min(i, 40);
            due.is("rows of the log", rows, () -> x.count(4));
        }
        due.is("the latest", "1 1 0 43 45", () -> Due.log(x, 0));
        due.is("the oldest", "2 0 0 4 6", () -> Due.log(x, 39));
        due.is("no older", -1, () -> x.log(40, 0));
        due.is("no later", -1, () -> x.log(-1, 0));
        due.noSuch("what 5", () -> x.log(0, 5));
        due.noSuch("what -1", () -> x.log(0, -1));
        due.noSuch("what 5, no such row", () -> x.log(99, 5));
        x.undo(1);
        due.is("what is taken back", "1 1 0 45 43", () -> Due.log(x, 0));
        due.is("rows", 40, () -> x.count(4));
    }
}
