/** Promises 9 to 13, 25 to 35, 37 to 42 and 44 to 46: what is asked, the image. */
public final class QuestionTest {
    private static final Due due = new Due("QuestionTest");
    private static final int NOTHING = PrivateViews.NOTHING;

    public static void main(String[] args) {
        places();
        fitting();
        ranks();
        moves();
        unlike();
        told();
        between();
        sums();
        groups();
        middles();
        twice();
        finding();
        images();
        counts();
        due.end();
    }

    /** Rows 0 (5 b), 1 (2 a), 2 (. b), 3 (5 .), 4 (-3 a); view 1 of 2 to 9, down; view 2 sorted by words. */
    private static PrivateViews sample() {
        PrivateViews x = new PrivateViews();
        Due.sheet(x, "columns number word;row 5 b;row 2 a;row . b;row 5 .;row -3 a");
        Due.view(x, 1, "0:2 to 9;down 0");
        Due.view(x, 2, "up 1");
        return x;
    }

    private static void places() {
        PrivateViews x = sample();
        due.is("view 1", "0 3 1", () -> Due.list(x, 1));
        due.is("row", 3, () -> x.row(1, 1));
        due.is("no row", -1, () -> x.row(1, 3));
        due.is("no row", -1, () -> x.row(1, -1));
        due.is("place", 2, () -> x.place(1, 1));
        due.is("no place", -1, () -> x.place(1, 2));
        due.noPlace("no key", () -> x.place(1, 5));
        due.noPlace("no key", () -> x.place(1, -1));
        due.noPlace("no view", () -> x.place(4, 0));
        due.is("order", 4, () -> x.order(4));
        due.is("no order", -1, () -> x.order(5));
        due.is("no order", -1, () -> x.order(-1));
        due.is("no order", -1, () -> x.order(Integer.MIN_VALUE));
    }

    private static void fitting() {
        PrivateViews x = sample();
        Due.view(x, 1, "1:b;0:not 5");
        due.is("fits", true, () -> x.fits(1, 2));
        due.is("fits not", false, () -> x.fits(1, 3));
        due.is("why: the first column", 0, () -> x.why(1, 3));
        due.is("why", 1, () -> x.why(1, 1));
        due.is("why none", -1, () -> x.why(1, 2));
        due.noPlace("no key", () -> x.why(1, 5));
        due.noPlace("no view", () -> x.why(4, 0));
        due.noPlace("no key", () -> x.fits(1, 5));
        due.noPlace("no view", () -> x.fits(-1, 0));
        x.set(0, 2, 1, Due.word("c"));
        x.set(0, 4, 1, Due.word("b"));
        x.set(0, 1, 1, Due.word("b"));
        due.is("stale", 1, () -> x.stale(1));
        due.is("pending", 2 + 16, () -> x.pending(1));
        due.is("stale of none", 0, () -> x.stale(0));
        due.noPlace("no view", () -> x.stale(4));
        due.noPlace("no view", () -> x.pending(4));
    }

    private static void ranks() {
        PrivateViews x = sample();
        due.is("rank", 2, () -> x.rank(1, 1));
        due.is("rank none", -1, () -> x.rank(1, 4));
        x.set(0, 4, 0, 9);
        due.is("rank of what has come to fit", 0, () -> x.rank(1, 4));
        due.is("the others give way", 3, () -> x.rank(1, 1));
        due.is("where it is not yet", -1, () -> x.place(1, 4));
        due.noPlace("no key", () -> x.rank(1, 5));
        due.noPlace("no view", () -> x.rank(4, 0));
    }

    private static void moves() {
        PrivateViews x = new PrivateViews();
        Due.sheet(x, "columns number;row 1;row 2;row 3;row 4;row 5;row 6");
        due.is("none", 0, () -> x.moves(0));
        x.drag(0, 0, 5);
        x.refresh(0);
        Due.view(x, 0, "up 0");
        x.drag(0, 0, 5);
        due.is("one", 1, () -> x.moves(0));
        x.drag(0, 0, 3);
        due.is("two", 2, () -> x.moves(0));
        Due.view(x, 0, "down 0");
        Due.view(x, 1, "up 0;0:not 9");
        x.replace(1, 0, 1, 9);
        x.replace(1, 0, 2, 8);
        x.replace(1, 0, 3, 7);
        due.is("list", "0 1 2 3 4 5", () -> Due.list(x, 1));
        due.is("what fits no more does not count", 2, () -> x.moves(1));
        due.noPlace("no view", () -> x.moves(4));
    }

    private static void unlike() {
        PrivateViews x = sample();
        due.is("0 and 1", 1, () -> x.unlike(0, 1));
        due.is("1 and 0", 1, () -> x.unlike(1, 0));
        due.is("0 and 3", 0, () -> x.unlike(0, 3));
        due.is("lists", "1 4 0 2 3", () -> Due.list(x, 2));
        due.is("0 and 2", 4, () -> x.unlike(0, 2));
        due.noNumber("both are one", () -> x.unlike(1, 1));
        due.noPlace("no view", () -> x.unlike(4, 4));
        due.noPlace("no other view", () -> x.unlike(0, -1));
    }

    private static String toldOf(PrivateViews x, int view) {
        return x.told(view, -1) + " " + x.told(view, 0) + " " + x.told(view, 1) + " " + x.told(view, 2);
    }

    private static void told() {
        PrivateViews x = new PrivateViews();
        Due.sheet(x, "columns number word number;row 1 b 1;row 2 a 1;row 1 a 1;row . c 1");
        due.is("none is needed", "0 -1 -1 -1", () -> toldOf(x, 0));
        Due.view(x, 0, "down 0;up 2");
        due.is("one is enough", "1 1 -1 -1", () -> toldOf(x, 0));
        Due.view(x, 0, "up 0;up 1;hide 1");
        due.is("two, a hidden one, too", "2 0 2 -1", () -> toldOf(x, 0));
        x.drag(0, 0, 3);
        due.is("the order goes along", "0 -1 -1 -1", () -> toldOf(x, 0));
        PrivateViews y = new PrivateViews();
        Due.sheet(y, "columns number;row 1;row 1;row 1");
        Due.view(y, 1, "up 0");
        y.drag(0, 0, 2);
        due.is("no sorts tell it", "-1 -1 -1 -1", () -> toldOf(y, 1));
        due.is("the dragged one", "0 -1 -1 -1", () -> toldOf(y, 0));
        due.is("k below NONE", -1, () -> y.told(0, -2));
        due.noPlace("no view", () -> y.told(4, 0));
        PrivateViews z = new PrivateViews();
        Due.sheet(z, "columns number number;row 1 2;row 0 3");
        Due.view(z, 0, "down 1");
        due.is("of several the first: column 0 up", "1 0 -1 -1", () -> toldOf(z, 0));
        Due.sheet(z, "row . .");
        Due.view(z, 0, "down 1");
        due.is("blank ones are behind", "1 0 -1 -1", () -> toldOf(z, 0));
    }

    private static void between() {
        PrivateViews x = sample();
        Due.view(x, 1, "0:5 or -3");
        due.is("list", "0 3 4", () -> Due.list(x, 1));
        due.is("two hide", 2, () -> x.between(1, 0, 1));
        due.is("the other way", 2, () -> x.between(1, 1, 0));
        due.is("what is seen in between does not count", 2, () -> x.between(1, 0, 2));
        due.is("none", 0, () -> x.between(1, 1, 2));
        due.noNumber("both are one", () -> x.between(1, 1, 1));
        due.noPlace("no place", () -> x.between(1, 3, 3));
        due.noPlace("no place", () -> x.between(1, 0, -1));
        due.noPlace("no view", () -> x.between(4, 0, 1));
    }

    private static void sums() {
        PrivateViews x = sample();
        due.is("sum", 9, () -> x.sum(0, 0));
        due.is("sum of a view", 12, () -> x.sum(1, 0));
        due.cannot("words", () -> x.sum(0, 1));
        due.noPlace("no column", () -> x.sum(0, 2));
        due.noPlace("no view", () -> x.sum(4, 1));
        due.is("kinds, blank is one", 4, () -> x.kinds(0, 0));
        due.is("kinds", 3, () -> x.kinds(0, 1));
        due.is("kinds of a view", 2, () -> x.kinds(1, 0));
        due.noPlace("no column", () -> x.kinds(0, -1));
        due.noPlace("no view", () -> x.kinds(4, 0));
        Due.view(x, 3, "0:99");
        due.is("none", "0 0", () -> x.sum(3, 0) + " " + x.kinds(3, 0));
        due.noPlace("by: no key", () -> x.by(5, 0));
        due.noPlace("by: no column", () -> x.by(0, 2));
    }

    private static String groupOf(PrivateViews x, int view, int column, int k) {
        return x.group(view, column, k, 0) + " " + x.group(view, column, k, 1) + " " + x.group(view, column, k, 2)
                + " " + x.group(view, column, k, 3);
    }

    private static void groups() {
        PrivateViews x = sample();
        due.is("group 0", "5 2 0 3", () -> groupOf(x, 0, 0, 0));
        due.is("group 1", "2 1 1 1", () -> groupOf(x, 0, 0, 1));
        due.is("group 2", NOTHING + " 1 2 2", () -> groupOf(x, 0, 0, 2));
        due.is("group 3", "-3 1 4 4", () -> groupOf(x, 0, 0, 3));
        due.noNumber("group 4", () -> x.group(0, 0, 4, 0));
        due.noNumber("group -1", () -> x.group(0, 0, -1, 0));
        due.noSuch("what 4", () -> x.group(0, 0, 4, 4));
        due.noSuch("what -1", () -> x.group(0, 0, 0, -1));
        due.noPlace("no column", () -> x.group(0, 2, 0, 4));
        due.noPlace("no view", () -> x.group(-1, 0, 0, 4));
        due.is("words", Due.word("a") + " 2 1 4", () -> groupOf(x, 0, 1, 1));
        due.is("total", 5, () -> x.total(0, 1, 0, 0));
        due.is("total", -1, () -> x.total(0, 1, 1, 0));
        due.is("total by itself", 10, () -> x.total(0, 0, 0, 0));
        due.is("total of blank ones", 0, () -> x.total(0, 0, 2, 0));
        due.cannot("words", () -> x.total(0, 0, 9, 1));
        due.noNumber("no group", () -> x.total(0, 0, 4, 0));
        due.noNumber("no group", () -> x.total(0, 0, -1, 0));
        due.noPlace("no column", () -> x.total(0, 2, 0, 1));
        due.noPlace("no other column", () -> x.total(0, 0, 0, 2));
        due.noPlace("no view", () -> x.total(4, 0, 0, 1));
    }

    private static void middles() {
        PrivateViews x = sample();
        due.is("of 4 the second", 2, () -> x.middle(0, 0));
        due.is("of 3 the second", 5, () -> x.middle(1, 0));
        due.is("words", Due.word("a"), () -> x.middle(0, 1));
        Due.view(x, 3, "0:blank");
        due.is("without", NOTHING, () -> x.middle(3, 0));
        due.is("of one", Due.word("b"), () -> x.middle(3, 1));
        due.noPlace("no column", () -> x.middle(0, 2));
        due.noPlace("no view", () -> x.middle(4, 0));
    }

    private static void twice() {
        PrivateViews x = sample();
        due.is("none", 0, () -> x.twice(0));
        Due.view(x, 0, "hide 0");
        due.is("hidden ones do not count", 4 + 16, () -> x.twice(0));
        Due.view(x, 0, "hide 0;hide 1");
        due.is("all hidden", 30, () -> x.twice(0));
        x.set(1, 1, 1, Due.word("b"));
        due.is("alike", 2, () -> x.twice(1));
        due.noPlace("no view", () -> x.twice(4));
    }

    private static void finding() {
        PrivateViews x = sample();
        due.is("find", 0, () -> x.find(1, 0, 5, 0));
        due.is("from", 1, () -> x.find(1, 0, 5, 1));
        due.is("none", -1, () -> x.find(1, 0, 5, 2));
        due.is("beyond", -1, () -> x.find(1, 0, 5, Integer.MAX_VALUE));
        due.is("blank", 2, () -> x.find(0, 0, NOTHING, 0));
        due.is("a word", 4, () -> x.find(0, 1, Due.word("a"), 2));
        due.noNumber("from below 0", () -> x.find(0, 0, 5, -1));
        due.noNumber("no number", () -> x.find(0, 0, 1000, 0));
        due.noNumber("no word", () -> x.find(0, 1, 5, 0));
        due.noPlace("no column", () -> x.find(0, 2, 5, -1));
        due.noPlace("no view", () -> x.find(4, 0, 5, 0));
    }

    private static String whole(PrivateViews x) {
        StringBuilder all = new StringBuilder(Due.order(x));
        for (int view = 0; view < 4; view++) {
            all.append('|').append(Due.list(x, view)).append('|').append(x.sorts(view, 0)).append('|').append(x.barred(view));
            for (int what = 0; what < 5; what++) {
                all.append(' ').append(x.about(view, what)).append(' ').append(x.count(what));
            }
        }
        for (int i = 0; x.order(i) >= 0; i++) {
            for (int column = 0; column < x.count(0); column++) {
                all.append(' ').append(x.cell(x.order(i), column)).append('/').append(x.by(x.order(i), column));
            }
        }
        for (int ago = 0; ago < x.count(4); ago++) {
            all.append(',').append(Due.log(x, ago));
        }
        return all.toString();
    }

    private static void images() {
        PrivateViews x = sample();
        due.is("no image", false, x::back);
        x.set(1, 0, 0, 7);
        x.fill(0, 0, 2, 0);
        x.image();
        String kept = whole(x);
        Due.sheet(x, "row 8 z");
        x.undo(0);
        x.set(2, 0, 0, 70);
        x.drop(0, 1);
        x.add(0, 0);
        x.drag(0, 0, 2);
        Due.view(x, 1, "hide 1;up 1;1:a");
        due.noNumber("a wrong text", () -> Due.view(x, 1, " x"));
        Due.feed(x, "row 1 b");
        due.is("back", true, x::back);
        due.is("all is as it was", kept, () -> whole(x));
        due.is("but for the fault", 1, x::fault);
        due.is("and the tape", 2, x::sheet);
        due.is("edits are remembered", 1, () -> x.undo(1));
        due.is("back again", true, x::back);
        due.is("an edit of several cells", 2, () -> x.undo(0));
        laterImage();
        PrivateViews y = new PrivateViews();
        y.image();
        Due.sheet(y, "columns number;row 1");
        due.is("back to nothing", true, y::back);
        due.is("no columns", 0, () -> y.count(0));
        due.is("columns may come again", 1, () -> Due.sheet(y, "columns word;row a"));
        due.is("the key", 0, () -> y.order(0));
    }

    private static void laterImage() {
        PrivateViews x = sample();
        x.image();
        x.set(1, 0, 0, 7);
        x.image();
        String later = whole(x);
        x.drop(0, 0);
        x.back();
        due.is("the later image", later, () -> whole(x));
    }

    private static void counts() {
        PrivateViews x = sample();
        x.drop(0, 0);
        x.set(0, 0, 0, 77);
        due.is("columns", 2, () -> x.count(0));
        due.is("rows", 4, () -> x.count(1));
        due.is("texts", 1, () -> x.count(2));
        due.is("keys", 5, () -> x.count(3));
        due.is("log", 1, () -> x.count(4));
        due.is("none", -1, () -> x.count(5));
        due.is("none", -1, () -> x.count(-1));
    }
}
