/** Promises 25 to 35, 37 to 40 and 42 at their edges: what is asked of a view. */
public final class EdgeAskTest {
    private static final Due due = new Due("EdgeAskTest");
    private static final int NOTHING = PrivateViews.NOTHING;
    private static final int[] NO_VIEWS = {-1, 4, Integer.MAX_VALUE, Integer.MIN_VALUE};
    private static final int[] NO_KEYS = {-1, 5, 7, Integer.MAX_VALUE, Integer.MIN_VALUE};
    private static final int[] NO_PLACES = {-1, 3, 4, 23, 24, Integer.MAX_VALUE, Integer.MIN_VALUE};
    private static final int[] NO_COLUMNS = {-1, 3, 4, 5, Integer.MAX_VALUE, Integer.MIN_VALUE};
    private static final Twins bare = new Twins(due, Samples::bare);
    private static final Twins rich = new Twins(due, Samples::rich);
    private static final Twins full = new Twins(due, Samples::full);

    public static void main(String[] args) {
        noViews();
        noKeys();
        noColumns();
        fits();
        why();
        staleAndPending();
        ranks();
        moves();
        movesOfAll();
        unlike();
        told();
        toldFirst();
        between();
        refusedBetween();
        sums();
        kinds();
        groups();
        refusedGroup();
        totals();
        middles();
        twice();
        finding();
        refusedFind();
        due.end();
    }

    private static void noViews() {
        for (int v : NO_VIEWS) {
            rich.noPlace("25: no view " + v, x -> x.fits(v, 0));
            rich.noPlace("26: no view " + v, x -> x.why(v, 0));
            rich.noPlace("27: no view " + v, x -> x.stale(v));
            rich.noPlace("28: no view " + v, x -> x.pending(v));
            rich.noPlace("29: no view " + v, x -> x.rank(v, 0));
            rich.noPlace("30: no view " + v, x -> x.moves(v));
            rich.noPlace("31: no view " + v, x -> x.unlike(v, 0));
            rich.noPlace("31: no other view " + v, x -> x.unlike(0, v));
            rich.noPlace("31: no view, ahead of both are one", x -> x.unlike(v, v));
            rich.noPlace("32: no view " + v, x -> x.told(v, -1));
            rich.noPlace("32: no view " + v, x -> x.told(v, 5));
            rich.noPlace("33: no view " + v, x -> x.between(v, 0, 1));
            rich.noPlace("34: no view " + v, x -> x.sum(v, 0));
            rich.noPlace("34: no view, ahead of words", x -> x.sum(v, 1));
            rich.noPlace("35: no view " + v, x -> x.kinds(v, 0));
            rich.noPlace("37: no view " + v, x -> x.group(v, 0, 0, 0));
            rich.noPlace("37: no view, ahead of all", x -> x.group(v, 0, 99, 99));
            rich.noPlace("38: no view " + v, x -> x.total(v, 0, 0, 0));
            rich.noPlace("38: no view, ahead of all", x -> x.total(v, 0, 99, 1));
            rich.noPlace("39: no view " + v, x -> x.middle(v, 0));
            rich.noPlace("40: no view " + v, x -> x.twice(v));
            rich.noPlace("42: no view " + v, x -> x.find(v, 0, 5, 0));
            rich.noPlace("42: no view, ahead of all", x -> x.find(v, 0, 1000, -1));
        }
    }

    private static void noKeys() {
        for (int key : NO_KEYS) {
            rich.noPlace("25: no key " + key, x -> x.fits(0, key));
            rich.noPlace("26: no key " + key, x -> x.why(0, key));
            rich.noPlace("29: no key " + key, x -> x.rank(0, key));
        }
        bare.noPlace("25: no rows", x -> x.fits(0, 0));
        bare.noPlace("26: no rows", x -> x.why(0, 0));
        bare.noPlace("29: no rows", x -> x.rank(0, 0));
    }

    private static void noColumns() {
        for (int c : NO_COLUMNS) {
            rich.noPlace("34: no column " + c, x -> x.sum(1, c));
            rich.noPlace("35: no column " + c, x -> x.kinds(1, c));
            rich.noPlace("37: no column " + c, x -> x.group(1, c, 0, 0));
            rich.noPlace("37: no column, ahead of no what", x -> x.group(1, c, 99, 99));
            rich.noPlace("38: no column " + c, x -> x.total(1, c, 0, 0));
            rich.noPlace("38: no other column " + c, x -> x.total(1, 0, 0, c));
            rich.noPlace("38: no column, ahead of words and no group", x -> x.total(1, c, 99, 1));
            rich.noPlace("38: no other column, ahead of no group", x -> x.total(1, 1, 99, c));
            rich.noPlace("39: no column " + c, x -> x.middle(1, c));
            rich.noPlace("42: no column " + c, x -> x.find(1, c, 5, 0));
            rich.noPlace("42: no column, ahead of no value", x -> x.find(1, c, 1000, -1));
        }
        bare.noPlace("34: no columns", x -> x.sum(0, 0));
        bare.noPlace("35: no columns", x -> x.kinds(0, 0));
        bare.noPlace("37: no columns", x -> x.group(0, 0, 0, 0));
        bare.noPlace("38: no columns", x -> x.total(0, 0, 0, 0));
        bare.noPlace("39: no columns", x -> x.middle(0, 0));
        bare.noPlace("42: no columns", x -> x.find(0, 0, 5, 0));
    }

    private static PrivateViews filtered() {
        PrivateViews x = new PrivateViews();
        Due.sheet(x, "columns number word number;row 1 a 1;row 1 a 2;row 1 b 1;row 2 a 1;row 2 b 2;row . . .");
        Due.view(x, 1, "0:1;1:a;2:1");
        Due.view(x, 2, "2:1;hide 2");
        Due.view(x, 3, "0:blank or 1;1:not b");
        return x;
    }

    // 25: "A ROW FITS a VIEW, if of each FILTER its CELL is as one of its TESTS", whether it is in THE LIST or not.
    private static void fits() {
        boolean[][] want = {{true, true, true, true, true, true}, {true, false, false, false, false, false},
            {true, false, true, true, false, false}, {true, true, false, false, false, true}};
        PrivateViews x = filtered();
        for (int view = 0; view < 4; view++) {
            for (int key = 0; key < 6; key++) {
                int v = view;
                int k = key;
                due.is("25: view " + v + " key " + k, want[v][k], () -> x.fits(v, k));
            }
        }
        x.set(0, 0, 0, 7);
        due.is("25: what is in the list yet", "false 0", () -> x.fits(1, 0) + " " + x.place(1, 0));
        x.set(0, 1, 2, 1);
        due.is("25: what is not in the list yet", "true -1", () -> x.fits(1, 1) + " " + x.place(1, 1));
        full.stay("25: not", false, y -> y.fits(1, 19));
        full.stay("25: the first that fits", true, y -> y.fits(1, 20));
    }

    // 26: "the first COLUMN whose FILTER it is not as; none".
    private static void why() {
        int[][] want = {{-1, -1, -1, -1, -1, -1}, {-1, 2, 1, 0, 0, 0}, {-1, 2, -1, -1, 2, 2}, {-1, -1, 1, 0, 0, -1}};
        PrivateViews x = filtered();
        for (int view = 0; view < 4; view++) {
            for (int key = 0; key < 6; key++) {
                int v = view;
                int k = key;
                due.is("26: view " + v + " key " + k, want[v][k], () -> x.why(v, k));
            }
        }
        PrivateViews y = new PrivateViews();
        Due.sheet(y, "columns number number number number number;row 1 1 1 1 1");
        Due.view(y, 0, "4:2");
        due.is("26: the fifth column", 4, () -> y.why(0, 0));
        Due.view(y, 0, "4:2;3:2;2:1");
        due.is("26: the first of two", 3, () -> y.why(0, 0));
    }

    // 27: "places of THE LIST whose ROW does not FIT, as bits"; 28: "places of THE ORDER whose ROW FITS and is not in".
    private static void staleAndPending() {
        rich.stay("27: the first", 1, x -> x.stale(1));
        rich.stay("27: none", 0, x -> x.stale(2));
        rich.stay("27: of an empty list", 0, x -> x.stale(3));
        rich.stay("28: the third of the order", 4, x -> x.pending(1));
        rich.stay("28: none", 0, x -> x.pending(0));
        bare.stay("27: no rows", 0, x -> x.stale(0));
        bare.stay("28: no rows", 0, x -> x.pending(0));
        PrivateViews x = Samples.full();
        Due.view(x, 3, "0:0 to 99");
        x.fill(0, 22, 23, 0);
        x.set(0, 23, 0, -1);
        due.is("27: the last of 24", 1 << 23, () -> x.stale(3));
        x.fill(0, 0, 23, 0);
        x.replace(0, 0, 0, -1);
        due.is("27: all of 24", (1 << 24) - 1, () -> x.stale(3));
        due.is("28: none", 0, () -> x.pending(3));
        x.refresh(3);
        due.is("27: none is left", 0, () -> x.stale(3));
        x.set(0, 23, 0, 99);
        due.is("28: the last of 24", 1 << 23, () -> x.pending(3));
        x.replace(0, 0, -1, 99);
        due.is("28: all of 24", (1 << 24) - 1, () -> x.pending(3));
        due.is("28: those of another view that are not in it", (1 << 20) - 1, () -> x.pending(1));
    }

    // 29: "its place in FRESH; none".
    private static void ranks() {
        rich.stay("29: by keys", "-1 0 1 -1 2 -1", x -> ranks(x, 1));
        rich.stay("29: sorted", "1 2 3 4 0 5", x -> ranks(x, 2));
        rich.stay("29: as in the order", "0 2 3 4 5 1", x -> ranks(x, 0));
        rich.stay("29: none", "-1 -1 -1 -1 -1 -1", x -> ranks(x, 3));
        full.stay("29: the last of 24", 23, x -> x.rank(0, 23));
        full.stay("29: down", "0 3 -1", x -> x.rank(1, 23) + " " + x.rank(1, 20) + " " + x.rank(1, 19));
    }

    private static String ranks(PrivateViews x, int view) {
        StringBuilder ranks = new StringBuilder();
        for (int key : new int[] {0, 1, 2, 3, 4, 6}) {
            ranks.append(ranks.length() == 0 ? "" : " ").append(x.rank(view, key));
        }
        return ranks.toString();
    }

    // 30: "the fewest that must be taken out and put elsewhere so that these are in the order of FRESH".
    private static void moves() {
        rich.stay("30: none", 0, x -> x.moves(0));
        rich.stay("30: what does not fit is not counted", 0, x -> x.moves(1));
        rich.stay("30: one", 1, x -> x.moves(2));
        rich.stay("30: of an empty list", 0, x -> x.moves(3));
        bare.stay("30: no rows", 0, x -> x.moves(0));
        PrivateViews y = filtered();
        y.set(0, 2, 2, 9);
        due.is("30: one in the midst that does not fit is not counted", "0 2", () -> y.moves(2) + " " + y.stale(2));
        PrivateViews x = Samples.full();
        Due.view(x, 3, "up 0");
        for (int i = 0; i < 12; i++) {
            x.swap(0, i, 23 - i, 0);
        }
        due.is("30: all but one of 24", 23, () -> x.moves(3));
        Due.view(x, 3, "up 0");
        x.drag(3, 0, 23);
        due.is("30: one of 24", 1, () -> x.moves(3));
    }

    private static int[] order(int n) {
        int[] left = {0, 1, 2, 3, 4};
        int[] order = new int[5];
        int rest = n;
        for (int i = 0; i < 5; i++) {
            int size = 5 - i;
            int at = rest % size;
            rest /= size;
            order[i] = left[at];
            System.arraycopy(left, at + 1, left, at, size - at - 1);
        }
        return order;
    }

    /** How many at least are to be taken out, so that the others rise: all sets are tried. */
    private static int fewest(int[] order) {
        int fewest = 5;
        for (int out = 0; out < 32; out++) {
            int last = -1;
            boolean rises = true;
            for (int i = 0; i < 5; i++) {
                if ((out >> i & 1) == 0) {
                    rises = rises && order[i] > last;
                    last = order[i];
                }
            }
            fewest = rises ? Math.min(fewest, Integer.bitCount(out)) : fewest;
        }
        return fewest;
    }

    private static int turned(int[] order) {
        int pairs = 0;
        for (int i = 0; i < 5; i++) {
            for (int j = i + 1; j < 5; j++) {
                pairs += order[i] > order[j] ? 1 : 0;
            }
        }
        return pairs;
    }

    private static void movesOfAll() {
        for (int n = 0; n < 120; n++) {
            int[] order = order(n);
            PrivateViews x = new PrivateViews();
            Due.sheet(x, "columns number;row 0;row 1;row 2;row 3;row 4");
            Due.view(x, 1, "up 0");
            for (int i = 0; i < 5; i++) {
                int from = x.place(1, order[i]);
                if (from != i) {
                    x.drag(1, from, i);
                }
            }
            String keys = Due.list(x, 1);
            due.is("30: moves of " + keys, fewest(order), () -> x.moves(1));
            due.is("31: unlike of " + keys, turned(order), () -> x.unlike(1, 2));
            due.is("31: the other way", turned(order), () -> x.unlike(2, 1));
        }
    }

    // 31: "pairs of ROWS that are in both LISTS, in another order". "IllegalArgumentException: both are one."
    private static void unlike() {
        for (int view = 0; view < 4; view++) {
            int v = view;
            rich.noNumber("31: both are one", x -> x.unlike(v, v));
        }
        rich.stay("31: 0 and 1", 0, x -> x.unlike(0, 1));
        rich.stay("31: 0 and 2", 9, x -> x.unlike(0, 2));
        rich.stay("31: 2 and 1", 2, x -> x.unlike(2, 1));
        rich.stay("31: with an empty one", "0 0", x -> x.unlike(0, 3) + " " + x.unlike(3, 2));
        bare.stay("31: no rows", 0, x -> x.unlike(0, 3));
        full.stay("31: four turned", 6, x -> x.unlike(0, 1));
        PrivateViews x = Samples.full();
        Due.view(x, 3, "down 0");
        due.is("31: all pairs of 24", 276, () -> x.unlike(0, 3));
    }

    private static String told(PrivateViews x, int view) {
        return x.told(view, -1) + ":" + x.told(view, 0) + " " + x.told(view, 1);
    }

    private static String told(String rows, String text) {
        PrivateViews x = new PrivateViews();
        Due.sheet(x, rows);
        Due.view(x, 0, text);
        return told(x, 0);
    }

    // 32: "how many SORTS (k NONE), or the k-th (as by sorts()); NONE without such ones".
    private static void told() {
        rich.stay("32: none is needed", "0:-1 -1", x -> told(x, 0));
        rich.stay("32: none is needed", "0:-1 -1", x -> told(x, 1));
        rich.stay("32: an empty list", "0:-1 -1", x -> told(x, 3));
        bare.stay("32: no columns", "0:-1 -1", x -> told(x, 0));
        full.stay("32: one", "1:1 -1", x -> told(x, 1));
        for (int k : new int[] {1, 2, 3, -2, Integer.MAX_VALUE, Integer.MIN_VALUE}) {
            full.stay("32: without", -1, x -> x.told(1, k));
        }
        String rows = "columns number word number;row 1 b 1;row 2 a 1;row 1 a 1;row . c 1";
        due.is("32: one", "1:1 -1", () -> told(rows, "down 0"));
        due.is("32: two", "2:0 2", () -> told(rows, "up 0;up 1"));
        due.is("32: hidden ones, too", "2:0 2", () -> told(rows, "up 0;up 1;hide 0;hide 1"));
        String three = "columns number number number;row 1 1 2;row 1 1 1;row 1 2 1;row 2 1 1;row 1 1 3;row 2 1 0;row 1 0 9";
        due.is("32: three are too many", "-1:-1 -1", () -> told(three, "down 0;down 1;down 2"));
        PrivateViews x = new PrivateViews();
        Due.sheet(x, "columns number number;row 1 1;row 1 1");
        Due.view(x, 1, "");
        x.drag(0, 0, 1);
        due.is("32: like by all, and not as in the order", "-1:-1 -1", () -> told(x, 1));
        for (int k : new int[] {0, 1, 2, -2, Integer.MAX_VALUE}) {
            due.is("32: without such ones", -1, () -> x.told(1, k));
        }
        due.is("32: as in the order", "0:-1 -1", () -> told(x, 0));
        x.drop(0, 0);
        due.is("32: one row", "0:-1 -1", () -> told(x, 1));
    }

    // 32: "of several the first ones (by the first SORT, then by the second: by COLUMN, up ahead of down)".
    private static void toldFirst() {
        due.is("32: the lower column", "1:0 -1", () -> told("columns number number;row 2 2;row 1 1", "up 1"));
        due.is("32: the lower column, down", "1:1 -1", () -> told("columns number number;row 1 2;row 2 1", "up 1"));
        due.is("32: the higher column", "1:2 -1", () -> told("columns number number;row 1 2;row 1 1", "up 1"));
        due.is("32: up ahead of down", "1:0 -1", () -> told("columns number;row .;row 1", "down 0"));
        due.is("32: the fifth column, down", "1:9 -1", () -> told(
                "columns word word word word word;row a a a a b;row a a a a c", "down 4"));
        String two = "columns number number number;row 1 3 3;row 1 2 2;row 0 1 1;row 0 9 9";
        due.is("32: the first of two", "2:0 2", () -> told(two, "up 0;up 2"));
        String higher = "columns number number;row 1 2;row 2 1;row 0 2;row 5 1";
        due.is("32: the higher column first", "2:2 0", () -> told(higher, "up 1;up 0"));
        due.is("32: the higher column first, down", "2:3 1", () -> told(higher, "down 1;down 0"));
        String like = "columns number number;row 1 2;row 2 1;row 1 1;row 2 3;row 1 3;row 2 2";
        for (String sorts : new String[] {"up 0;up 1", "up 0;down 1", "down 0;up 1", "down 0;down 1"}) {
            int first = sorts.startsWith("up") ? 0 : 1;
            int second = sorts.endsWith("up 1") ? 2 : 3;
            due.is("32: by " + sorts, "2:" + first + " " + second, () -> told(like, sorts));
        }
        String wide = "columns word word word number number;row a a a 1 2;row a a a 2 1;row a a a 1 1;row a a a 2 3;"
                + "row a a a 1 3;row a a a 2 2";
        due.is("32: the fourth and the fifth column", "2:6 9", () -> told(wide, "up 3;down 4"));
        due.is("32: the fourth and the fifth column", "2:7 9", () -> told(wide, "down 3;down 4"));
    }

    // 33: "ROWS that are in THE ORDER between those two (both not), and not in THE LIST: how many".
    private static void between() {
        rich.stay("33: the first and the second", 2, x -> x.between(1, 0, 1));
        rich.stay("33: the other way", 2, x -> x.between(1, 1, 0));
        rich.stay("33: the second and the last", 1, x -> x.between(1, 1, 2));
        rich.stay("33: the first and the last", 3, x -> x.between(1, 0, 2));
        rich.stay("33: all are seen", 0, x -> x.between(0, 0, 5));
        rich.stay("33: all are seen", 0, x -> x.between(2, 0, 5));
        full.stay("33: none", 0, x -> x.between(1, 0, 3));
        PrivateViews x = Samples.full();
        Due.view(x, 3, "0:0 or 23");
        due.is("33: all but two of 24", 22, () -> x.between(3, 0, 1));
        due.is("33: the other way", 22, () -> x.between(3, 1, 0));
        x.drag(3, 0, 1);
        due.is("33: neighbours now", 0, () -> x.between(3, 0, 1));
    }

    private static void refusedBetween() {
        for (int place : NO_PLACES) {
            rich.noPlace("33: no place " + place, x -> x.between(1, place, 0));
            rich.noPlace("33: no other place " + place, x -> x.between(1, 0, place));
            rich.noPlace("33: no place, ahead of both are one", x -> x.between(1, place, place));
        }
        rich.noPlace("33: an empty list", x -> x.between(3, 0, 0));
        bare.noPlace("33: no rows", x -> x.between(0, 0, 1));
        rich.noNumber("33: both places are one", x -> x.between(1, 0, 0));
        rich.noNumber("33: both places are one", x -> x.between(1, 2, 2));
    }

    // 34: "of all CELLS in THE LIST that are not BLANK". "IllegalStateException: the COLUMN is of words."
    private static void sums() {
        rich.stay("34: with blank ones", 27, x -> x.sum(0, 0));
        rich.stay("34: of a view", 22, x -> x.sum(1, 0));
        rich.stay("34: of a hidden column", 27, x -> x.sum(2, 0));
        rich.stay("34: of none", 0, x -> x.sum(3, 0));
        rich.cannot("34: words", x -> x.sum(0, 1));
        rich.cannot("34: words, an empty list", x -> x.sum(3, 1));
        PrivateViews x = Samples.full();
        x.replace(0, 0, 0, 999);
        x.fill(0, 0, 23, 0);
        due.is("34: the greatest", 24 * 999, () -> x.sum(0, 0));
        x.replace(0, 0, 999, -999);
        due.is("34: the least", -24 * 999, () -> x.sum(0, 0));
        x.replace(0, 0, -999, NOTHING);
        due.is("34: blank ones alone", 0, () -> x.sum(0, 0));
    }

    // 35: "how many unlike values THE LIST has there (BLANK is one)".
    private static void kinds() {
        rich.stay("35: blank is one", 4, x -> x.kinds(0, 0));
        rich.stay("35: words", 6, x -> x.kinds(0, 1));
        rich.stay("35: of a view", 3, x -> x.kinds(1, 0));
        rich.stay("35: of a hidden column", 3, x -> x.kinds(1, 1));
        rich.stay("35: of none", 0, x -> x.kinds(3, 0));
        full.stay("35: 24", 24, x -> x.kinds(0, 0));
        PrivateViews x = Samples.full();
        x.fill(0, 0, 23, 0);
        due.is("35: one", 1, () -> x.kinds(0, 0));
        x.clear(0, 23, 0);
        due.is("35: and blank", 2, () -> x.kinds(0, 0));
    }

    private static String group(PrivateViews x, int view, int column, int k) {
        int value = x.group(view, column, k, 0);
        return (value == NOTHING ? "." : "" + value) + " " + x.group(view, column, k, 1) + " "
                + x.group(view, column, k, 2) + " " + x.group(view, column, k, 3);
    }

    // 37: "each unlike value, in the order in which they first come": "0 the value, 1 how many ROWS, 2 the first place,
    // 3 the last one".
    private static void groups() {
        rich.stay("37: all", "8 1 0 0|. 2 1 4|5 2 2 3|9 1 5 5", x -> group(x, 0, 0, 0) + "|" + group(x, 0, 0, 1) + "|"
                + group(x, 0, 0, 2) + "|" + group(x, 0, 0, 3));
        rich.stay("37: of a hidden column", "9 1 0 0|8 1 1 1|5 2 2 3|. 2 4 5", x -> group(x, 2, 0, 0) + "|"
                + group(x, 2, 0, 1) + "|" + group(x, 2, 0, 2) + "|" + group(x, 2, 0, 3));
        rich.stay("37: words", Due.word("z") + " 1 5 5", x -> group(x, 0, 1, 5));
        full.stay("37: the last of 24", "23 1 23 23", x -> group(x, 0, 0, 23));
        PrivateViews x = Samples.full();
        x.fill(0, 0, 23, 0);
        due.is("37: one of 24", "0 24 0 23", () -> group(x, 0, 0, 0));
        x.clear(0, 0, 0);
        due.is("37: the blank one first", ". 1 0 0|0 23 1 23", () -> group(x, 0, 0, 0) + "|" + group(x, 0, 0, 1));
    }

    // 37: "NoSuchElementException: another what; IllegalArgumentException: there is no such GROUP."
    private static void refusedGroup() {
        for (int what : new int[] {-1, 4, Integer.MAX_VALUE, Integer.MIN_VALUE}) {
            rich.noSuch("37: what " + what, x -> x.group(0, 0, 0, what));
            rich.noSuch("37: what, ahead of no group", x -> x.group(0, 0, 4, what));
            rich.noSuch("37: what, an empty list", x -> x.group(3, 0, 0, what));
        }
        for (int k : new int[] {-1, 4, 5, 24, Integer.MAX_VALUE, Integer.MIN_VALUE}) {
            for (int what = 0; what < 4; what++) {
                int n = what;
                rich.noNumber("37: no group " + k, x -> x.group(0, 0, k, n));
            }
        }
        rich.noNumber("37: an empty list", x -> x.group(3, 0, 0, 0));
        full.noNumber("37: no group 24", x -> x.group(0, 0, 24, 0));
    }

    // 38: "of a GROUP the SUM of another COLUMN of numbers". "IllegalStateException: the other COLUMN is of words;
    // IllegalArgumentException: there is no such GROUP."
    private static void totals() {
        rich.stay("38: by numbers", "1 4 1 5", x -> x.total(0, 0, 0, 2) + " " + x.total(0, 0, 1, 2) + " "
                + x.total(0, 0, 2, 2) + " " + x.total(0, 0, 3, 2));
        rich.stay("38: by words", "8 0 5", x -> x.total(0, 1, 0, 0) + " " + x.total(0, 1, 1, 0) + " "
                + x.total(0, 1, 2, 0));
        rich.stay("38: by itself", "8 0 10 9", x -> x.total(0, 0, 0, 0) + " " + x.total(0, 0, 1, 0) + " "
                + x.total(0, 0, 2, 0) + " " + x.total(0, 0, 3, 0));
        rich.stay("38: of a hidden column", 9, x -> x.total(2, 1, 0, 0));
        rich.cannot("38: words", x -> x.total(0, 0, 0, 1));
        rich.cannot("38: words, ahead of no group", x -> x.total(0, 0, 4, 1));
        rich.cannot("38: words, an empty list", x -> x.total(3, 0, 0, 1));
        rich.cannot("38: words by themselves", x -> x.total(0, 1, 0, 1));
        for (int k : new int[] {-1, 4, 5, 24, Integer.MAX_VALUE, Integer.MIN_VALUE}) {
            rich.noNumber("38: no group " + k, x -> x.total(0, 0, k, 2));
        }
        rich.noNumber("38: an empty list", x -> x.total(3, 0, 0, 0));
        full.stay("38: the last of 24", 23, x -> x.total(0, 0, 23, 0));
        full.noNumber("38: no group 24", x -> x.total(0, 0, 24, 0));
        PrivateViews x = Samples.full();
        x.replace(0, 0, 0, -999);
        x.fill(0, 0, 23, 0);
        due.is("38: the least", -24 * 999, () -> x.total(0, 0, 0, 0));
    }

    // 39: "sorted up, that at half of how many there are less 1, rounded down; NOTHING without".
    private static void middles() {
        int[] want = {NOTHING, 4, 4, 4, 4, 4, 2};
        String[] rows = {"row .", "row 4", "row 9;row 4", "row 9;row 4;row -3", "row 9;row 4;row -3;row 5",
            "row 9;row 4;row -3;row 5;row 1;row .", "row 9;row 4;row -3;row 5;row 1;row 2"};
        for (int i = 0; i < want.length; i++) {
            PrivateViews x = new PrivateViews();
            Due.sheet(x, "columns number;" + rows[i]);
            due.is("39: of " + rows[i], want[i], () -> x.middle(0, 0));
        }
        rich.stay("39: of an empty list", NOTHING, x -> x.middle(3, 0));
        rich.stay("39: words", Due.word("c"), x -> x.middle(0, 1));
        rich.stay("39: of a hidden column", Due.word("c"), x -> x.middle(1, 1));
        rich.stay("39: like ones", 5, x -> x.middle(0, 0));
        full.stay("39: of 24 the twelfth", 11, x -> x.middle(0, 0));
        full.stay("39: of four the second", 21, x -> x.middle(1, 0));
    }

    // 40: "places of THE LIST whose ROW is in all COLUMNS that are not HIDDEN as some ROW ahead of it there, as bits".
    private static void twice() {
        PrivateViews x = new PrivateViews();
        Due.sheet(x, "columns number word;row 1 a;row 2 a;row 1 a;row . .;row 1 b;row . .;row 1 a");
        due.is("40: all columns", 4 + 32 + 64, () -> x.twice(0));
        Due.view(x, 1, "hide 0");
        due.is("40: words alone", 2 + 4 + 32 + 64, () -> x.twice(1));
        Due.view(x, 1, "hide 1");
        due.is("40: numbers alone", 4 + 16 + 32 + 64, () -> x.twice(1));
        Due.view(x, 1, "hide 1;hide 0");
        due.is("40: no column", 127 - 1, () -> x.twice(1));
        Due.view(x, 1, "down 0;up 1");
        due.is("10: the list", "1 0 2 6 4 3 5", () -> Due.list(x, 1));
        due.is("40: ahead of it there", 4 + 8 + 64, () -> x.twice(1));
        Due.view(x, 1, "0:2");
        due.is("40: in the list alone", 0, () -> x.twice(1));
        Due.view(x, 1, "0:99");
        due.is("40: of an empty list", 0, () -> x.twice(1));
        full.stay("40: none of 24", 0, y -> y.twice(0));
        bare.stay("40: no rows", 0, y -> y.twice(0));
        PrivateViews z = Samples.full();
        z.set(0, 23, 0, 0);
        due.is("40: the last of 24", 1 << 23, () -> z.twice(0));
        z.fill(0, 0, 23, 0);
        due.is("40: all but the first", (1 << 24) - 2, () -> z.twice(0));
    }

    // 42: "the first place of THE LIST, a place at least, whose CELL is a value (or NOTHING: is BLANK); none".
    private static void finding() {
        rich.stay("42: the first", 2, x -> x.find(0, 0, 5, 0));
        rich.stay("42: that place itself", 2, x -> x.find(0, 0, 5, 2));
        rich.stay("42: the next", 3, x -> x.find(0, 0, 5, 3));
        rich.stay("42: none behind", -1, x -> x.find(0, 0, 5, 4));
        rich.stay("42: the last place", 5, x -> x.find(0, 0, 9, 5));
        rich.stay("42: blank", "1 4 -1", x -> x.find(0, 0, NOTHING, 0) + " " + x.find(0, 0, NOTHING, 2) + " "
                + x.find(0, 0, NOTHING, 5));
        rich.stay("42: words", 3, x -> x.find(0, 1, Due.word("c"), 0));
        rich.stay("42: a hidden column", 1, x -> x.find(1, 1, Due.word("c"), 0));
        rich.stay("42: not in the list", -1, x -> x.find(1, 0, NOTHING, 0));
        rich.stay("42: an empty list", -1, x -> x.find(3, 0, 5, 0));
        for (int from : new int[] {6, 24, 25, Integer.MAX_VALUE}) {
            rich.stay("42: from " + from, -1, x -> x.find(0, 0, 9, from));
        }
        rich.stay("42: the least and the greatest", "-1 -1", x -> x.find(0, 0, -999, 0) + " " + x.find(0, 0, 999, 0));
        rich.stay("42: the least and the greatest word", "0 -1", x -> x.find(0, 1, 19683, 0) + " "
                + x.find(0, 1, 531440, 0));
        full.stay("42: the last of 24", 23, x -> x.find(0, 0, 23, 23));
        full.stay("42: behind 24", -1, x -> x.find(0, 0, 23, 24));
    }

    // 42: "IllegalArgumentException: the value is none of the COLUMN, nor NOTHING, or from is below 0."
    private static void refusedFind() {
        for (int from : new int[] {-1, -2, Integer.MIN_VALUE}) {
            rich.noNumber("42: from " + from, x -> x.find(0, 0, 5, from));
            rich.noNumber("42: from, an empty list", x -> x.find(3, 0, 5, from));
            rich.noNumber("42: from, and no value", x -> x.find(0, 0, 1000, from));
        }
        for (int value : new int[] {1000, -1000, NOTHING - 1, NOTHING + 1, 19683, Integer.MAX_VALUE, Integer.MIN_VALUE}) {
            rich.noNumber("42: no number " + value, x -> x.find(0, 0, value, 0));
            rich.noNumber("42: no number, an empty list", x -> x.find(3, 0, value, 0));
            rich.noNumber("42: no number, from behind all", x -> x.find(0, 0, value, 99));
        }
        for (int value : new int[] {0, 5, 19682, 19684, 531441, NOTHING + 1, Integer.MAX_VALUE, Integer.MIN_VALUE}) {
            rich.noNumber("42: no word " + value, x -> x.find(0, 1, value, 0));
        }
    }
}
