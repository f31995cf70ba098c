/** Promises 20 to 23 at their edges: rows are added, dropped, dragged, a view is refreshed. */
public final class EdgeRowTest {
    private static final Due due = new Due("EdgeRowTest");
    private static final int NOTHING = PrivateViews.NOTHING;
    private static final int[] NO_VIEWS = {-1, 4, Integer.MAX_VALUE, Integer.MIN_VALUE};
    private static final int[] NO_PLACES = {-1, 3, 4, 23, 24, Integer.MAX_VALUE, Integer.MIN_VALUE};
    private static final Twins bare = new Twins(due, Samples::bare);
    private static final Twins rich = new Twins(due, Samples::rich);
    private static final Twins full = new Twins(due, Samples::full);

    public static void main(String[] args) {
        adding();
        addingToNone();
        addingElsewhere();
        addingTheLast();
        refusedAdd();
        dropping();
        droppingAll();
        refusedDrop();
        dragging();
        draggingTwo();
        refusedDrag();
        refreshing();
        refreshingOrder();
        refusedRefresh();
        noEdits();
        due.end();
    }

    private static String lists(PrivateViews x) {
        return Due.list(x, 0) + "|" + Due.list(x, 1) + "|" + Due.list(x, 2) + "|" + Due.list(x, 3) + "|" + Due.order(x);
    }

    // 20: "behind a place (or NONE: ahead of all): a new ROW, BLANK, in THE LIST there; in THE ORDER right behind".
    private static void adding() {
        PrivateViews x = Samples.rich();
        due.is("10: lists", "0 6 1 2 3 4|0 2 4|4 0 2 1 3 6||0 6 1 2 3 4", () -> lists(x));
        due.is("20: behind the first", 7, () -> x.add(1, 0));
        due.is("10: lists", "0 6 1 2 3 4 7|0 7 2 4|4 0 2 1 3 6 7||0 7 6 1 2 3 4", () -> lists(x));
        due.is("20: behind the last", 8, () -> x.add(1, 3));
        due.is("10: lists", "0 6 1 2 3 4 7 8|0 7 2 4 8|4 0 2 1 3 6 7 8||0 7 6 1 2 3 4 8", () -> lists(x));
        due.is("20: ahead of all", 9, () -> x.add(1, -1));
        due.is("10: lists", "0 6 1 2 3 4 7 8 9|9 0 7 2 4 8|4 0 2 1 3 6 7 8 9||9 0 7 6 1 2 3 4 8", () -> lists(x));
        due.is("20: behind a place of a sorted list", 10, () -> x.add(2, 0));
        due.is("10: lists", "0 6 1 2 3 4 7 8 9 10|9 0 7 2 4 8|4 10 0 2 1 3 6 7 8 9||9 0 7 6 1 2 3 4 10 8",
                () -> lists(x));
        due.is("8: blank", NOTHING + " " + NOTHING + " " + NOTHING, () -> x.cell(7, 0) + " " + x.cell(7, 1) + " "
                + x.cell(7, 2));
        due.is("36: by none", "-1 -1 -1", () -> x.by(7, 0) + " " + x.by(7, 1) + " " + x.by(7, 2));
        due.is("46: keys", 11, () -> x.count(3));
        due.is("46: rows", 10, () -> x.count(1));
    }

    private static void addingToNone() {
        PrivateViews x = Samples.rich();
        due.is("20: ahead of all of an empty list", 7, () -> x.add(3, -1));
        due.is("10: lists", "0 6 1 2 3 4 7|0 2 4|4 0 2 1 3 6 7|7|7 0 6 1 2 3 4", () -> lists(x));
        due.is("20: behind the one that does not fit", 8, () -> x.add(3, 0));
        due.is("10: lists", "0 6 1 2 3 4 7 8|0 2 4|4 0 2 1 3 6 7 8|7 8|7 8 0 6 1 2 3 4", () -> lists(x));
        PrivateViews y = new PrivateViews();
        Due.sheet(y, "columns word");
        due.is("20: the first row of all", 0, () -> y.add(2, -1));
        due.is("10: lists", "0|0|0|0|0", () -> lists(y));
    }

    // 20: "in THE LIST of each other VIEW that it FITS last".
    private static void addingElsewhere() {
        PrivateViews x = new PrivateViews();
        Due.sheet(x, "columns number word;row 1 a;row . .");
        Due.view(x, 0, "0:1");
        Due.view(x, 1, "0:blank;1:blank");
        Due.view(x, 2, "0:not 1");
        Due.view(x, 3, "1:a*");
        due.is("20: add", 2, () -> x.add(3, 0));
        due.is("10: lists", "0|1 2|1 2|0 2|0 2 1", () -> lists(x));
        due.is("20: add", 3, () -> x.add(1, -1));
        due.is("10: lists", "0|3 1 2|1 2 3|0 2|3 0 2 1", () -> lists(x));
    }

    // 20: "UnsupportedOperationException: there are 24 ROWS".
    private static void addingTheLast() {
        PrivateViews x = Samples.full();
        x.drop(0, 23);
        due.is("20: the 24th row", 24, () -> x.add(0, 22));
        due.is("9: last", 24, () -> x.order(23));
        due.unsupported("20: a 25th row", () -> x.add(0, 23));
        x.drop(1, 0);
        due.is("20: where one is gone", 25, () -> x.add(2, -1));
        due.is("9: first", 25, () -> x.order(0));
        due.is("46: rows", 24, () -> x.count(1));
    }

    private static void refusedAdd() {
        for (int view : NO_VIEWS) {
            rich.noPlace("20: no view " + view, x -> x.add(view, 0));
            rich.noPlace("20: no view " + view, x -> x.add(view, -1));
            full.noPlace("20: no view, ahead of 24 rows", x -> x.add(view, -1));
        }
        for (int place : new int[] {-2, 3, 4, 23, 24, Integer.MAX_VALUE, Integer.MIN_VALUE}) {
            rich.noPlace("20: no place " + place, x -> x.add(1, place));
        }
        rich.noPlace("20: an empty list", x -> x.add(3, 0));
        full.unsupported("20: 24 rows", x -> x.add(0, 0));
        full.unsupported("20: 24 rows", x -> x.add(0, 23));
        full.unsupported("20: 24 rows", x -> x.add(2, -1));
        full.noPlace("20: no place, ahead of 24 rows", x -> x.add(0, 24));
        full.noPlace("20: no place, ahead of 24 rows", x -> x.add(2, 0));
        bare.unsupported("20: no columns", x -> x.add(0, -1));
        bare.noPlace("20: no place, ahead of no columns", x -> x.add(0, 0));
        bare.noPlace("20: no view, ahead of no columns", x -> x.add(4, -1));
    }

    // 21: "a ROW of THE LIST is gone, from all LISTS": "the KEY".
    private static void dropping() {
        PrivateViews x = Samples.rich();
        due.is("21: the first", 0, () -> x.drop(1, 0));
        due.is("10: lists", "6 1 2 3 4|2 4|4 2 1 3 6||6 1 2 3 4", () -> lists(x));
        due.is("21: the last", 6, () -> x.drop(2, 4));
        due.is("10: lists", "1 2 3 4|2 4|4 2 1 3||1 2 3 4", () -> lists(x));
        due.noPlace("8: the key is gone", () -> x.cell(0, 0));
        due.noPlace("36: the key is gone", () -> x.by(0, 0));
        due.noPlace("11: the key is gone", () -> x.place(1, 0));
        due.noPlace("25: the key is gone", () -> x.fits(0, 6));
        due.noPlace("26: the key is gone", () -> x.why(0, 6));
        due.noPlace("29: the key is gone", () -> x.rank(0, 6));
        due.is("46: rows", 4, () -> x.count(1));
        due.is("46: keys so far", 7, () -> x.count(3));
        due.is("20: none is used again", 7, () -> x.add(1, 0));
        due.is("8: blank again", NOTHING, () -> x.cell(7, 0));
        due.is("36: by none again", -1, () -> x.by(7, 0));
        due.is("43: the log keeps the key", 0, () -> x.log(0, 1));
    }

    private static void droppingAll() {
        PrivateViews x = Samples.full();
        for (int i = 23; i >= 20; i--) {
            int key = i;
            due.is("21: drop", key, () -> x.drop(1, 0));
        }
        due.noPlace("21: an empty list", () -> x.drop(1, 0));
        for (int i = 0; i < 20; i++) {
            int key = i;
            due.is("21: drop", key, () -> x.drop(0, 0));
        }
        due.is("46: none is left", "1 0 3 24 0", () -> x.count(0) + " " + x.count(1) + " " + x.count(2) + " "
                + x.count(3) + " " + x.count(4));
        due.is("9: none", -1, () -> x.order(0));
        due.noPlace("21: none is left", () -> x.drop(0, 0));
        due.is("20: a new one", 24, () -> x.add(0, -1));
        due.is("4: told", 4, () -> Due.sheet(x, "row 5"));
        due.is("10: lists", "24 25|||24 25|24 25", () -> lists(x));
    }

    private static void refusedDrop() {
        for (int view : NO_VIEWS) {
            rich.noPlace("21: no view " + view, x -> x.drop(view, 0));
        }
        for (int place : NO_PLACES) {
            rich.noPlace("21: no place " + place, x -> x.drop(1, place));
        }
        rich.noPlace("21: an empty list", x -> x.drop(3, 0));
        bare.noPlace("21: no rows", x -> x.drop(0, 0));
        full.noPlace("21: no place 24", x -> x.drop(0, 24));
    }

    // 22: "goes to another place of it (so that it stands there then), and in THE ORDER right behind the one that is
    // ahead of it in THE LIST then (first of all: right ahead of the one that is behind it there then)".
    private static void dragging() {
        PrivateViews x = Samples.rich();
        due.is("22: the first to the last", 0, () -> x.drag(1, 0, 2));
        due.is("10: lists", "0 6 1 2 3 4|2 4 0|4 0 2 1 3 6||6 1 2 3 4 0", () -> lists(x));
        due.is("22: the last to the first", 0, () -> x.drag(1, 2, 0));
        due.is("10: lists", "0 6 1 2 3 4|0 2 4|4 0 2 1 3 6||6 1 0 2 3 4", () -> lists(x));
        due.is("22: one on", 0, () -> x.drag(1, 0, 1));
        due.is("10: lists", "0 6 1 2 3 4|2 0 4|4 0 2 1 3 6||6 1 2 0 3 4", () -> lists(x));
        due.is("22: one back", 4, () -> x.drag(1, 2, 1));
        due.is("10: lists", "0 6 1 2 3 4|2 4 0|4 0 2 1 3 6||6 1 2 4 0 3", () -> lists(x));
        due.is("22: to the first of a sorted list", 3, () -> x.drag(2, 4, 0));
        due.is("10: lists", "0 6 1 2 3 4|2 4 0|3 4 0 2 1 6||6 1 2 3 4 0", () -> lists(x));
        due.is("22: where it is yet in the order", 4, () -> x.drag(1, 1, 2));
        due.is("10: lists", "0 6 1 2 3 4|2 0 4|3 4 0 2 1 6||6 1 2 3 0 4", () -> lists(x));
        due.is("22: cells go along", "9 8", () -> x.cell(4, 0) + " " + x.cell(0, 0));
        PrivateViews y = Samples.full();
        due.is("22: the first of 24 to the last", 0, () -> y.drag(0, 0, 23));
        due.is("9: the last", "1 0", () -> y.order(0) + " " + y.order(23));
        due.is("22: the last of 24 to the first", 0, () -> y.drag(0, 23, 0));
        due.is("9: the first", "0 23", () -> y.order(0) + " " + y.order(23));
    }

    private static void draggingTwo() {
        PrivateViews x = new PrivateViews();
        Due.sheet(x, "columns number;row 1;row 2;row 3;row 2;row 1");
        Due.view(x, 1, "0:2");
        due.is("22: two", 1, () -> x.drag(1, 0, 1));
        due.is("10: lists", "0 1 2 3 4|3 1|0 1 2 3 4|0 1 2 3 4|0 2 3 1 4", () -> lists(x));
        due.is("22: two, back", 1, () -> x.drag(1, 1, 0));
        due.is("10: lists", "0 1 2 3 4|1 3|0 1 2 3 4|0 1 2 3 4|0 2 1 3 4", () -> lists(x));
    }

    private static void refusedDrag() {
        for (int view : NO_VIEWS) {
            rich.noPlace("22: no view " + view, x -> x.drag(view, 0, 1));
            rich.noPlace("22: no view, ahead of one place", x -> x.drag(view, 0, 0));
        }
        for (int place : NO_PLACES) {
            rich.noPlace("22: no place from " + place, x -> x.drag(1, place, 0));
            rich.noPlace("22: no place to " + place, x -> x.drag(1, 0, place));
            rich.noPlace("22: no place, ahead of one place", x -> x.drag(1, place, place));
        }
        rich.noPlace("22: an empty list", x -> x.drag(3, 0, 0));
        bare.noPlace("22: no rows", x -> x.drag(0, 0, 1));
        rich.noNumber("22: both places are one", x -> x.drag(1, 0, 0));
        rich.noNumber("22: both places are one, the last", x -> x.drag(0, 5, 5));
    }

    // 23: "how many ROWS came, and went, together".
    private static void refreshing() {
        PrivateViews x = Samples.rich();
        due.is("23: one came, one went", 2, () -> x.refresh(1));
        due.is("10: lists", "0 6 1 2 3 4|1 2 4|4 0 2 1 3 6||0 6 1 2 3 4", () -> lists(x));
        due.is("23: none", 0, () -> x.refresh(1));
        due.is("23: sorted anew", 0, () -> x.refresh(2));
        due.is("10: lists", "0 6 1 2 3 4|1 2 4|4 0 1 2 3 6||0 6 1 2 3 4", () -> lists(x));
        x.set(0, 0, 0, 9);
        due.is("23: one came", 1, () -> x.refresh(1));
        x.set(0, 5, 0, 99);
        due.is("23: one came to none", 1, () -> x.refresh(3));
        due.is("23: one went", 1, () -> x.refresh(1));
        due.is("10: lists", "0 6 1 2 3 4|0 1 2|4 0 1 2 3 6|4|0 6 1 2 3 4", () -> lists(x));
        PrivateViews y = Samples.full();
        y.replace(0, 0, 0, 99);
        y.fill(0, 0, 23, 0);
        due.is("23: twenty came", 20, () -> y.refresh(1));
        due.is("23: all came", 24, () -> y.refresh(2));
        y.fill(0, 0, 0, 0);
        y.undo(0);
        due.is("23: all but one went", 23, () -> y.refresh(2));
    }

    private static void refreshingOrder() {
        PrivateViews x = Samples.rich();
        x.drag(2, 0, 5);
        due.is("10: dragged", "0 2 1 3 6 4", () -> Due.list(x, 2));
        due.is("23: by its sorts again", 0, () -> x.refresh(2));
        due.is("10: sorted", "4 0 1 2 3 6", () -> Due.list(x, 2));
        x.drag(0, 3, 0);
        due.is("23: what is like as in the order", 0, () -> x.refresh(2));
        due.is("10: the words tell them", "4 0 1 2 3 6", () -> Due.list(x, 2));
    }

    private static void refusedRefresh() {
        for (int view : NO_VIEWS) {
            rich.noPlace("23: no view " + view, x -> x.refresh(view));
        }
        rich.stay("23: nothing to be done", 0, x -> x.refresh(3));
        rich.stay("23: nothing to be done", 0, x -> x.refresh(0));
        bare.stay("23: no rows", 0, x -> x.refresh(0));
    }

    // "A text of THE SHEET, of a VIEW, REFRESHED, ADDED, DROPPED, DRAGGED are no EDITS."
    private static void noEdits() {
        PrivateViews x = Samples.rich();
        x.end(0);
        x.add(1, 0);
        x.drag(1, 0, 2);
        x.drop(0, 5);
        x.refresh(1);
        Due.view(x, 1, "up 0");
        Due.sheet(x, "row 1 a 1");
        due.is("12: no edits", "2 2 1 0", () -> x.about(0, 4) + " " + x.about(1, 4) + " " + x.about(2, 4) + " "
                + x.about(3, 4));
        due.is("46: no log", 5, () -> x.count(4));
        due.is("24: the edit is yet the latest", 1, () -> x.undo(1));
    }
}
