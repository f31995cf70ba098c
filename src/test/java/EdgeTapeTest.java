/** Promises 1, 2, 3 and 6 at their edges: a new object, the tape, the first wrong byte. */
public final class EdgeTapeTest {
    private static final Due due = new Due("EdgeTapeTest");
    private static final int BLANKS = 0x20202020;

    public static void main(String[] args) {
        newObject();
        bytesOfNumbers();
        fullTape();
        refusedFeed();
        cutTape();
        refusedEnd();
        faults();
        longestText();
        due.end();
    }

    private static int feedBlanks(PrivateViews x) {
        return x.feed(BLANKS, BLANKS, BLANKS, BLANKS, BLANKS);
    }

    // 1: "A sheet without COLUMNS, without ROWS", each VIEW without FILTER, SORTS, HIDDEN ones, with an empty LIST.
    private static void newObject() {
        PrivateViews x = new PrivateViews();
        for (int what = 0; what < 5; what++) {
            int n = what;
            due.is("1: count " + n, 0, () -> x.count(n));
        }
        due.noPlace("1: no column", () -> x.kind(0));
        due.is("1: no order", -1, () -> x.order(0));
        due.is("1: no log", -1, () -> x.log(0, 0));
        due.is("1: no fault", -1, x::fault);
        due.is("1: an empty tape", false, () -> x.end(1));
        due.is("1: no image", false, x::back);
        for (int view = 0; view < 4; view++) {
            newView(x, view);
        }
    }

    private static void newView(PrivateViews x, int view) {
        for (int what = 0; what < 5; what++) {
            int n = what;
            due.is("1: about " + n, 0, () -> x.about(view, n));
        }
        due.is("1: no row", -1, () -> x.row(view, 0));
        due.is("1: no sort", -1, () -> x.sorts(view, 0));
        due.is("1: no edit", -1, () -> x.barred(view));
        due.is("1: told by no sorts", 0, () -> x.told(view, -1));
        due.is("1: none of these", "0 0 0 0 0", () -> x.stale(view) + " " + x.pending(view) + " " + x.moves(view) + " "
                + x.twice(view) + " " + x.refresh(view));
    }

    // 2: "Twenty bytes come behind the TAPE, of each number the highest first."
    private static void bytesOfNumbers() {
        for (int at = 0; at < 20; at++) {
            for (int sign : new int[] {'x', 0, 127, 128, 255, 31, 33}) {
                PrivateViews x = new PrivateViews();
                int[] n = {BLANKS, BLANKS, BLANKS, BLANKS, BLANKS};
                int shift = 24 - 8 * (at % 4);
                n[at / 4] = n[at / 4] & ~(255 << shift) | sign << shift;
                due.is("2: twenty bytes", 20, () -> x.feed(n[0], n[1], n[2], n[3], n[4]));
                due.noNumber("2: byte " + sign + " at " + at, x::sheet);
                int place = at;
                due.is("2: the place of byte " + sign, place, x::fault);
            }
        }
    }

    // 2: "how many it has; NONE, and none come, if it would have more than 400."
    private static void fullTape() {
        PrivateViews x = new PrivateViews();
        for (int i = 1; i <= 20; i++) {
            int n = 20 * i;
            due.is("2: the tape has " + n, n, () -> feedBlanks(x));
        }
        due.is("2: none beyond 400", -1, () -> feedBlanks(x));
        due.is("2: it has 400", true, () -> x.end(400));
        due.is("2: and a text of 400 bytes is read", 1, x::sheet);
        due.is("2: what was used up is gone", 20, () -> feedBlanks(x));
        due.is("2: behind what is there", 40, () -> feedBlanks(x));
        due.is("3: cut", true, () -> x.end(33));
        due.is("2: behind what is left", 53, () -> feedBlanks(x));
    }

    private static void refusedFeed() {
        for (int length : new int[] {380, 381, 390, 399, 400}) {
            PrivateViews x = new PrivateViews();
            for (int i = 0; i < 20; i++) {
                feedBlanks(x);
            }
            x.end(length);
            boolean taken = length == 380;
            due.is("2: feed at " + length, taken ? 400 : -1, () -> x.feed(-1, -1, -1, -1, -1));
            due.is("2: none came at " + length, taken, () -> x.end(length + 1));
            due.is("2: what was there stays at " + length, true, () -> x.end(length));
            due.is("2: as it was at " + length, 1, x::sheet);
        }
    }

    // 3: "The TAPE has its first n bytes alone: true."
    private static void cutTape() {
        PrivateViews x = new PrivateViews();
        due.is("3: none of none", true, () -> x.end(0));
        Due.feed(x, "columns number;x");
        due.is("3: all of them", true, () -> x.end(16));
        due.is("3: all of them are there yet", true, () -> x.end(16));
        due.is("3: two fewer", true, () -> x.end(14));
        due.is("3: what is cut off is gone", false, () -> x.end(15));
        due.is("3: the first ones alone", 1, x::sheet);
        due.is("3: they are used up", false, () -> x.end(1));
        feedBlanks(x);
        due.is("3: none", true, () -> x.end(0));
        due.is("3: none is left", false, () -> x.end(1));
        due.is("3: an empty text", 2, x::sheet);
    }

    // 3: "false, and nothing happens, if it has fewer, or n is below 0."
    private static void refusedEnd() {
        Twins rich = new Twins(due, Samples::rich);
        for (int n : new int[] {7, 8, 400, 401, Integer.MAX_VALUE, -1, -2, Integer.MIN_VALUE}) {
            rich.stay("3: end " + n, false, x -> x.end(n));
        }
        rich.stay("3: end of all", true, x -> x.end(6));
        Twins bare = new Twins(due, PrivateViews::new);
        for (int n : new int[] {1, -1, 400}) {
            bare.stay("3: end of an empty tape " + n, false, x -> x.end(n));
        }
    }

    // 6: "The first wrong byte of the latest text that was read; NONE without one, and ahead of any."
    private static void faults() {
        PrivateViews x = new PrivateViews();
        due.is("6: ahead of any", -1, x::fault);
        due.noPlace("4: no such view", () -> Due.view(x, 4, "x"));
        due.is("6: none was read yet", -1, x::fault);
        due.noNumber("4: wrong", () -> Due.sheet(x, "  x"));
        due.is("6: the first wrong byte", 2, x::fault);
        due.noNumber("4: wrong", () -> Due.sheet(x, "x x"));
        due.is("6: of the latest text", 0, x::fault);
        Due.sheet(x, "columns number;row 1");
        due.is("6: without one", -1, x::fault);
        due.noNumber("5: wrong", () -> Due.view(x, 0, "up"));
        due.is("6: of a view", 2, x::fault);
        due.noNumber("19: wrong", () -> Due.paste(x, 0, 0, 0, "1;"));
        due.is("6: of what is pasted", 2, x::fault);
        Due.feed(x, "row");
        due.is("6: feeding reads no text", 2, x::fault);
        x.end(0);
        x.image();
        due.noNumber("5: wrong", () -> Due.view(x, 0, " hide  1"));
        x.back();
        due.is("6: it stays when one goes back", 7, x::fault);
        Due.paste(x, 0, 0, 0, "3");
        due.is("6: without one", -1, x::fault);
        due.noNumber("5: wrong", () -> Due.view(x, 0, "x"));
        Due.view(x, 0, "");
        due.is("6: without one", -1, x::fault);
    }

    private static String longText(String end) {
        StringBuilder text = new StringBuilder("columns number;row 1");
        while (text.length() + end.length() < 400) {
            text.append(' ');
        }
        return text.append(end).toString();
    }

    // "or the text's length, if more must come": at most 400.
    private static void longestText() {
        Twins bare = new Twins(due, PrivateViews::new);
        bare.wrong("4: more must come behind 400 bytes", 400, longText(";"), PrivateViews::sheet);
        bare.wrong("4: the last of 400 bytes", 399, longText("x"), PrivateViews::sheet);
        PrivateViews x = new PrivateViews();
        due.is("4: 400 bytes", 1, () -> Due.sheet(x, longText(";row 2")));
        due.is("4: its last line", 2, () -> x.cell(1, 0));
    }
}
