/** Promises 24, 36, 41 and 43 to 46 at their edges: what is taken back, by whom, the log, the image, the counts. */
public final class EdgeUndoTest {
    private static final Due due = new Due("EdgeUndoTest");
    private static final int NOTHING = PrivateViews.NOTHING;
    private static final int[] NO_VIEWS = {-1, 4, Integer.MAX_VALUE, Integer.MIN_VALUE};
    private static final Twins bare = new Twins(due, Samples::bare);
    private static final Twins rich = new Twins(due, Samples::rich);
    private static final Twins full = new Twins(due, Samples::full);

    public static void main(String[] args) {
        takingBack();
        refusedUndo();
        writtenOver();
        writtenAsLeft();
        ownLater();
        goneRows();
        eightEdits();
        eightOfEachView();
        afterTakingBack();
        views();
        by();
        barred();
        logOrder();
        fortyRows();
        refusedLog();
        imageOfNone();
        image();
        imageKeepsAll();
        imageOfEdits();
        imageOfLog();
        counts();
        due.end();
    }

    /** One column of numbers, three rows of 0. */
    private static PrivateViews zeros() {
        PrivateViews x = new PrivateViews();
        Due.sheet(x, "columns number;row 0;row 0;row 0");
        return x;
    }

    // 24: "each CELL that it changed is as it was ahead of it": "how many CELLS are changed by that".
    private static void takingBack() {
        PrivateViews x = Samples.rich();
        due.is("24: a fill", 1, () -> x.undo(1));
        due.is("8: as it was", 3, () -> x.cell(2, 2));
        due.is("36: by", 1, () -> x.by(2, 2));
        due.is("43: the log", "1 2 2 1 3", () -> Due.log(x, 0));
        due.is("12: one is left", 1, () -> x.about(1, 4));
        due.is("24: the other view's", 1, () -> x.undo(0));
        due.is("8: as it was", 6, () -> x.cell(0, 0));
        due.is("24: then this one's", 1, () -> x.undo(1));
        due.is("8: as it was told", 5, () -> x.cell(0, 0));
        due.is("36: by the last", 1, () -> x.by(0, 0));
        due.is("10: lists stay", "0 2 4", () -> Due.list(x, 1));
        due.is("27: it is no more stale", 0, () -> x.stale(1));
        due.cannot("24: no edit is left", () -> x.undo(1));
        due.is("12: none", 0, () -> x.about(1, 4));
        due.is("24: the other one's first", 1, () -> x.undo(0));
        due.is("8: as it was told", 2, () -> x.cell(1, 0));
        due.cannot("24: no edit is left", () -> x.undo(0));
    }

    // "IllegalStateException: there is no EDIT, or it cannot be."
    private static void refusedUndo() {
        for (int view : NO_VIEWS) {
            rich.noPlace("24: no view " + view, x -> x.undo(view));
        }
        rich.cannot("24: no edit", x -> x.undo(3));
        bare.cannot("24: no edit", x -> x.undo(0));
        Twins over = new Twins(due, EdgeUndoTest::over);
        over.cannot("24: one of three was written over", x -> x.undo(0));
        over.stay("41: that one", 2, x -> x.barred(0));
        Twins gone = new Twins(due, EdgeUndoTest::gone);
        gone.cannot("24: one of three is gone", x -> x.undo(0));
        gone.stay("41: that one", 1, x -> x.barred(0));
    }

    private static PrivateViews over() {
        PrivateViews x = zeros();
        x.set(3, 0, 0, 9);
        x.replace(0, 0, 0, 5);
        x.fill(0, 0, 2, 0);
        x.set(1, 2, 0, 7);
        return x;
    }

    private static PrivateViews gone() {
        PrivateViews x = zeros();
        x.replace(0, 0, 0, 5);
        x.drop(2, 1);
        return x;
    }

    // "it cannot be, if some of these is not as that EDIT left it": nothing of it is taken back then.
    private static void writtenOver() {
        PrivateViews x = over();
        due.cannot("24: written over", () -> x.undo(0));
        due.is("8: nothing is taken back", "9 9 7", () -> x.cell(0, 0) + " " + x.cell(1, 0) + " " + x.cell(2, 0));
        due.is("12: the edit is remembered", 2, () -> x.about(0, 4));
        due.is("24: the other one's", 1, () -> x.undo(1));
        due.is("24: now it can be", 2, () -> x.undo(0));
        due.is("8: as it was", "9 5 5", () -> x.cell(0, 0) + " " + x.cell(1, 0) + " " + x.cell(2, 0));
        due.is("24: the one ahead", 2, () -> x.undo(0));
        due.is("24: the third view's", 1, () -> x.undo(3));
        due.is("8: as told", "0 0 0", () -> x.cell(0, 0) + " " + x.cell(1, 0) + " " + x.cell(2, 0));
    }

    private static void writtenAsLeft() {
        PrivateViews x = zeros();
        x.set(0, 0, 0, 5);
        x.set(1, 0, 0, 6);
        due.is("41: barred", 0, () -> x.barred(0));
        x.set(2, 0, 0, 5);
        due.is("41: as it left it", -1, () -> x.barred(0));
        due.is("24: by whomever it is so", 1, () -> x.undo(0));
        due.is("8: as it was", 0, () -> x.cell(0, 0));
        due.is("41: the others' are not as left", "0 0", () -> x.barred(1) + " " + x.barred(2));
    }

    private static void ownLater() {
        PrivateViews x = zeros();
        x.set(0, 0, 0, 5);
        x.set(0, 0, 0, 6);
        due.is("41: the latest alone is asked", -1, () -> x.barred(0));
        due.is("24: the latest", 1, () -> x.undo(0));
        due.is("8: the one ahead stays", 5, () -> x.cell(0, 0));
        x.clear(1, 0, 0);
        due.is("41: cleared by another", 0, () -> x.barred(0));
        x.undo(1);
        due.is("24: the first", 1, () -> x.undo(0));
        due.is("8: as told", 0, () -> x.cell(0, 0));
    }

    // "or its ROW is gone"
    private static void goneRows() {
        PrivateViews x = zeros();
        x.set(0, 0, 0, 5);
        x.set(0, 1, 0, 6);
        x.drop(0, 1);
        due.is("41: its row is gone", 1, () -> x.barred(0));
        due.cannot("24: its row is gone", () -> x.undo(0));
        x.add(0, 0);
        x.set(1, 2, 0, 6);
        due.is("41: another row is not that one", 1, () -> x.barred(0));
        due.cannot("24: its row is gone", () -> x.undo(0));
        due.is("12: the edits behind it are remembered", 2, () -> x.about(0, 4));
        due.is("24: another view's goes on", 1, () -> x.undo(1));
    }

    // "(8 are remembered of each VIEW)"
    private static void eightEdits() {
        for (int made = 1; made <= 10; made++) {
            PrivateViews x = zeros();
            for (int i = 1; i <= made; i++) {
                x.set(2, 0, 0, i);
            }
            int kept = Math.min(made, 8);
            due.is("12: of " + made + " edits", kept, () -> x.about(2, 4));
            for (int i = 1; i <= kept; i++) {
                int left = made - i;
                due.is("24: taken back", 1, () -> x.undo(2));
                due.is("8: as it was", left, () -> x.cell(0, 0));
                due.is("12: so many are left", kept - (made - left), () -> x.about(2, 4));
            }
            due.cannot("24: none is left of " + made, () -> x.undo(2));
            due.is("41: none is left", -1, () -> x.barred(2));
        }
    }

    private static void eightOfEachView() {
        PrivateViews x = zeros();
        for (int i = 1; i <= 8; i++) {
            x.set(0, 0, 0, i);
            x.set(1, 1, 0, i);
        }
        x.set(3, 2, 0, 1);
        due.is("12: eight of each", "8 8 0 1", () -> x.about(0, 4) + " " + x.about(1, 4) + " " + x.about(2, 4) + " "
                + x.about(3, 4));
        x.set(1, 1, 0, 9);
        due.is("12: eight of each", "8 8 0 1", () -> x.about(0, 4) + " " + x.about(1, 4) + " " + x.about(2, 4) + " "
                + x.about(3, 4));
        for (int i = 0; i < 8; i++) {
            x.undo(0);
            x.undo(1);
        }
        due.is("8: the ninth of one is forgotten", "0 1", () -> x.cell(0, 0) + " " + x.cell(1, 0));
    }

    private static void afterTakingBack() {
        PrivateViews x = zeros();
        for (int i = 1; i <= 8; i++) {
            x.set(0, 0, 0, i);
        }
        x.undo(0);
        x.undo(0);
        x.set(0, 0, 0, 70);
        x.set(0, 0, 0, 80);
        due.is("12: what was taken back is none any more", 8, () -> x.about(0, 4));
        for (int left : new int[] {70, 6, 5, 4, 3, 2, 1, 0}) {
            due.is("24: taken back", 1, () -> x.undo(0));
            due.is("8: as it was", left, () -> x.cell(0, 0));
        }
        due.cannot("24: none is left", () -> x.undo(0));
    }

    // "A text of a VIEW is no EDIT": told anew, hidden or without its row, a view takes back what it edited.
    private static void views() {
        PrivateViews x = zeros();
        x.set(1, 0, 0, 5);
        Due.view(x, 1, "0:99;hide 0");
        due.is("12: remembered", 1, () -> x.about(1, 4));
        due.is("24: taken back", 1, () -> x.undo(1));
        due.is("8: as it was", 0, () -> x.cell(0, 0));
        due.is("36: by", 1, () -> x.by(0, 0));
    }

    // 36: "the VIEW through which it was changed last, by an EDIT or one TAKEN BACK (none at first)"; "NONE".
    private static void by() {
        PrivateViews x = zeros();
        due.is("36: none at first", -1, () -> x.by(0, 0));
        x.set(3, 0, 0, 5);
        due.is("36: changed", 3, () -> x.by(0, 0));
        x.set(2, 0, 0, 5);
        due.is("36: not changed", 3, () -> x.by(0, 0));
        x.clear(2, 0, 0);
        due.is("36: cleared", 2, () -> x.by(0, 0));
        x.undo(2);
        due.is("36: taken back", 2, () -> x.by(0, 0));
        x.undo(3);
        due.is("36: taken back", 3, () -> x.by(0, 0));
        due.is("36: others", "-1 -1", () -> x.by(1, 0) + " " + x.by(2, 0));
        for (int key : new int[] {-1, 5, 7, Integer.MAX_VALUE, Integer.MIN_VALUE}) {
            rich.noPlace("36: no key " + key, y -> y.by(key, 0));
            rich.noPlace("36: no key " + key, y -> y.by(key, 9));
        }
        for (int column : new int[] {-1, 3, 5, Integer.MAX_VALUE, Integer.MIN_VALUE}) {
            rich.noPlace("36: no column " + column, y -> y.by(0, column));
        }
        bare.noPlace("36: no rows", y -> y.by(0, 0));
        rich.stay("36: by", "0 2 1 -1", y -> y.by(0, 0) + " " + y.by(4, 1) + " " + y.by(2, 2) + " " + y.by(6, 0));
    }

    // 41: "the KEY of the first CELL that is not as it left it, or whose ROW is gone; none (also without an EDIT)".
    private static void barred() {
        PrivateViews x = zeros();
        due.is("41: without an edit", -1, () -> x.barred(0));
        x.drag(0, 2, 0);
        x.replace(0, 0, 0, 5);
        due.is("41: none", -1, () -> x.barred(0));
        x.set(1, 0, 0, 6);
        due.is("41: the only one", 0, () -> x.barred(0));
        x.set(1, 2, 0, 6);
        due.is("41: the first as it was changed", 2, () -> x.barred(0));
        x.undo(1);
        due.is("41: again", 0, () -> x.barred(0));
        x.drop(3, 1);
        due.is("41: one that is gone", 0, () -> x.barred(0));
        x.drop(3, 1);
        due.is("41: the first that is gone", 2, () -> x.barred(0));
        for (int view : NO_VIEWS) {
            rich.noPlace("41: no view " + view, y -> y.barred(view));
        }
        rich.stay("41: none", -1, y -> y.barred(1));
        rich.stay("41: without an edit", -1, y -> y.barred(3));
    }

    // 43: "what 0 the VIEW, 1 the KEY, 2 the COLUMN, 3 what it was, 4 what it was then".
    private static void logOrder() {
        PrivateViews x = zeros();
        x.set(1, 2, 0, -5);
        due.is("43: set", "1 2 0 0 -5", () -> Due.log(x, 0));
        x.clear(2, 2, 0);
        due.is("43: cleared", "2 2 0 -5 " + NOTHING, () -> Due.log(x, 0));
        x.fill(3, 0, 2, 0);
        due.is("43: filled", "3 2 0 " + NOTHING + " 0", () -> Due.log(x, 0));
        x.replace(0, 0, 0, 4);
        due.is("43: replaced, the first one", "0 0 0 0 4", () -> Due.log(x, 2));
        due.is("43: replaced, the last one", "0 2 0 0 4", () -> Due.log(x, 0));
        x.undo(0);
        due.is("43: taken back, the first one", "0 0 0 4 0", () -> Due.log(x, 2));
        due.is("43: taken back, the last one", "0 2 0 4 0", () -> Due.log(x, 0));
        due.is("43: the first of all", "1 2 0 0 -5", () -> Due.log(x, 8));
        due.is("46: nine", 9, () -> x.count(4));
        due.is("43: none ahead", -1, () -> x.log(9, 0));
    }

    // "THE LOG: the latest 40 CELLS".
    private static void fortyRows() {
        PrivateViews x = zeros();
        for (int i = 1; i <= 39; i++) {
            x.set(0, 0, 0, i);
        }
        due.is("46: 39", 39, () -> x.count(4));
        due.is("43: no 40th yet", -1, () -> x.log(39, 4));
        x.set(0, 0, 0, 40);
        due.is("46: 40", 40, () -> x.count(4));
        due.is("43: the first", 1, () -> x.log(39, 4));
        x.set(0, 0, 0, 41);
        due.is("46: 40 yet", 40, () -> x.count(4));
        due.is("43: the first gave way", 2, () -> x.log(39, 4));
        due.is("43: the latest", 41, () -> x.log(0, 4));
        due.is("43: no 41st", -1, () -> x.log(40, 4));
        for (int i = 42; i <= 100; i++) {
            x.set(0, 0, 0, i);
        }
        due.is("43: round again", "100 61", () -> x.log(0, 4) + " " + x.log(39, 4));
        x.undo(0);
        due.is("43: what is taken back", "100 99", () -> x.log(0, 3) + " " + x.log(0, 4));
        due.is("43: the next gave way", 62, () -> x.log(39, 4));
    }

    // "NONE without. NoSuchElementException: another what."
    private static void refusedLog() {
        for (int what : new int[] {-1, 5, Integer.MAX_VALUE, Integer.MIN_VALUE}) {
            rich.noSuch("43: what " + what, x -> x.log(0, what));
            rich.noSuch("43: what, without such a row", x -> x.log(5, what));
            bare.noSuch("43: what, without a row", x -> x.log(0, what));
        }
        for (int ago : new int[] {-1, 5, 39, 40, 41, Integer.MAX_VALUE, Integer.MIN_VALUE}) {
            for (int what = 0; what < 5; what++) {
                int n = what;
                rich.stay("43: without", -1, x -> x.log(ago, n));
            }
        }
        bare.stay("43: without", -1, x -> x.log(0, 0));
        rich.stay("43: the oldest", "1 0 0 5 6", x -> Due.log(x, 4));
        rich.stay("43: the latest", "0 0 0 6 8", x -> Due.log(x, 0));
    }

    // 45: "false, and nothing happens, if none was kept".
    private static void imageOfNone() {
        bare.stay("45: none was kept", false, PrivateViews::back);
        full.stay("45: none was kept", false, PrivateViews::back);
    }

    private static String told(PrivateViews x) {
        return Whole.tell(0, x) + Whole.tell(1, x) + Whole.tell(3, x);
    }

    // 44: "THE IMAGE is kept": one; 45: "One goes back to THE IMAGE: true".
    private static void image() {
        PrivateViews x = Samples.rich();
        due.is("45: back", true, x::back);
        due.is("45: the row that was gone", "0 1 2 3 4 5", () -> Due.order(x));
        due.is("45: what was written later", 6, () -> x.cell(0, 0));
        due.is("45: keys", 6, () -> x.count(3));
        due.is("45: the log", 3, () -> x.count(4));
        due.is("45: edits", "1 2 0 0", () -> x.about(0, 4) + " " + x.about(1, 4) + " " + x.about(2, 4) + " "
                + x.about(3, 4));
        due.is("45: not the fault", Samples.FAULT, x::fault);
        due.is("45: not the tape", true, () -> x.end(6));
        due.is("45: a key comes again", 6, () -> x.add(0, -1));
        due.is("45: again", true, x::back);
        due.is("45: the order", "0 1 2 3 4 5", () -> Due.order(x));
        PrivateViews y = zeros();
        y.image();
        y.set(0, 0, 0, 1);
        y.image();
        y.set(0, 0, 0, 2);
        due.is("45: back", true, y::back);
        due.is("44: the later image alone", 1, () -> y.cell(0, 0));
        due.is("45: back", true, y::back);
        due.is("44: the later image alone", 1, () -> y.cell(0, 0));
    }

    private static void imageKeepsAll() {
        Twins.Call[] calls = {x -> x.set(0, 0, 0, 77), x -> x.clear(1, 0, 0), x -> x.fill(0, 0, 5, 2),
            x -> x.replace(0, 0, 5, 7), x -> x.swap(0, 0, 5, 0), x -> x.add(1, 1), x -> x.drop(1, 1),
            x -> x.drag(1, 0, 2), x -> x.refresh(1), x -> x.undo(0), x -> x.undo(1), x -> Due.sheet(x, "row 5 q 5"),
            x -> Due.view(x, 1, "2:5;up 1;hide 2"), x -> Due.view(x, 2, ""), x -> Due.paste(x, 1, 2, 0, "5,5;9,9")};
        for (int i = 0; i < calls.length; i++) {
            for (int part = 0; part < Whole.NAMES.length; part++) {
                PrivateViews x = Samples.rich();
                PrivateViews twin = Samples.rich();
                x.end(0);
                twin.end(0);
                x.image();
                twin.image();
                calls[i].on(x);
                due.is("45: back", true, x::back);
                int n = part;
                if (n < Whole.NAMES.length - 1) {
                    due.is("45: behind call " + i + " " + Whole.NAMES[n], Whole.tell(n, twin), () -> Whole.tell(n, x));
                }
            }
        }
    }

    private static void imageOfEdits() {
        PrivateViews x = zeros();
        for (int i = 1; i <= 9; i++) {
            x.set(0, 0, 0, i);
        }
        x.image();
        String kept = told(x);
        for (int i = 10; i <= 15; i++) {
            x.set(0, 0, 0, i);
        }
        due.is("45: back", true, x::back);
        due.is("45: all of it", kept, () -> told(x));
        for (int left = 8; left >= 1; left--) {
            int n = left;
            due.is("45: edits are those of the image", 1, () -> x.undo(0));
            due.is("8: as it was", n, () -> x.cell(0, 0));
        }
        due.cannot("24: none is left", () -> x.undo(0));
        due.is("45: back", true, x::back);
        due.is("45: all of it, again", kept, () -> told(x));
        PrivateViews y = new PrivateViews();
        y.image();
        Due.sheet(y, "columns word word;row a b");
        Due.view(y, 0, "up 1;0:a;hide 0");
        y.set(1, 0, 0, Due.word("c"));
        due.is("45: back to a new one", true, y::back);
        due.is("45: as a new one", told(new PrivateViews()), () -> told(y));
        due.is("4: columns come first again", 1, () -> Due.sheet(y, "columns number;row 7"));
        due.is("8: a cell", 7, () -> y.cell(0, 0));
    }

    private static void imageOfLog() {
        PrivateViews x = zeros();
        for (int i = 1; i <= 43; i++) {
            x.set(i % 3, i % 2, 0, i);
        }
        x.image();
        for (int i = 50; i < 95; i++) {
            x.set(3, 2, 0, i);
        }
        due.is("45: back", true, x::back);
        due.is("45: the latest of the log", "1 1 0 41 43", () -> Due.log(x, 0));
        due.is("45: the oldest of the log", "1 0 0 2 4", () -> Due.log(x, 39));
        due.is("45: so many", 40, () -> x.count(4));
        x.set(3, 2, 0, 7);
        due.is("43: goes on from there", "3 2 0 0 7|1 1 0 41 43|2 1 0 3 5", () -> Due.log(x, 0) + "|" + Due.log(x, 1)
                + "|" + Due.log(x, 39));
    }

    // 46: "0 COLUMNS, 1 ROWS, 2 texts of THE SHEET, 3 KEYS so far, 4 rows of THE LOG. NONE for another what."
    private static void counts() {
        int[] want = {3, 6, 2, 7, 5};
        for (int what = 0; what < 5; what++) {
            int n = what;
            rich.stay("46: count " + n, want[n], x -> x.count(n));
            bare.stay("46: count " + n, 0, x -> x.count(n));
        }
        for (int what : new int[] {-1, 5, 6, Integer.MAX_VALUE, Integer.MIN_VALUE}) {
            rich.stay("46: another what", -1, x -> x.count(what));
        }
        full.stay("46: 24 rows", "1 24 3 24 0", x -> x.count(0) + " " + x.count(1) + " " + x.count(2) + " "
                + x.count(3) + " " + x.count(4));
    }
}
