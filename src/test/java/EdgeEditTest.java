/** Promises 14 to 18 at their edges: cells are set, cleared, filled, replaced, swapped. */
public final class EdgeEditTest {
    private static final Due due = new Due("EdgeEditTest");
    private static final int NOTHING = PrivateViews.NOTHING;
    private static final int[] NO_VIEWS = {-1, 4, Integer.MAX_VALUE, Integer.MIN_VALUE};
    private static final int[] NO_PLACES = {-1, 3, 4, 23, 24, Integer.MAX_VALUE, Integer.MIN_VALUE};
    private static final int[] NO_COLUMNS = {-1, 3, 4, 5, Integer.MAX_VALUE, Integer.MIN_VALUE};
    private static final int[] NO_NUMBERS = {1000, -1000, NOTHING, NOTHING - 1, NOTHING + 1, 19683, 531440,
        Integer.MAX_VALUE, Integer.MIN_VALUE};
    private static final int[] NO_WORDS = {NOTHING, NOTHING - 1, -1, 0, 1, 26, 27, 999, 19682, 19684, 19683 + 27,
        19683 + 729 + 1, 531441, 531442, 2 * 531441, -19683, Integer.MAX_VALUE, Integer.MIN_VALUE};
    private static final Twins bare = new Twins(due, Samples::bare);
    private static final Twins rich = new Twins(due, Samples::rich);

    public static void main(String[] args) {
        setting();
        settingNothing();
        refusedSet();
        clearing();
        refusedClear();
        filling();
        fillingFull();
        refusedFill();
        replacing();
        refusedReplace();
        swapping();
        refusedSwap();
        listsStay();
        allValues();
        due.end();
    }

    private static String column(PrivateViews x, int column) {
        StringBuilder values = new StringBuilder();
        for (int place = 0; place < x.count(1); place++) {
            int value = x.cell(x.order(place), column);
            values.append(place == 0 ? "" : " ").append(value == NOTHING ? "." : String.valueOf(value));
        }
        return values.toString();
    }

    /** One cell changed through a view: who wrote it, what the log and the edits tell. */
    private static void changed(PrivateViews x, String what, int view, int key, int column, int was, int then) {
        due.is(what + ": the cell", then, () -> x.cell(key, column));
        due.is(what + ": by", view, () -> x.by(key, column));
        due.is(what + ": the log", view + " " + key + " " + column + " " + was + " " + then, () -> Due.log(x, 0));
    }

    // 14: "SET: the KEY": the least and the greatest value of a COLUMN.
    private static void setting() {
        PrivateViews x = Samples.rich();
        int edits = x.about(1, 4);
        int logged = x.count(4);
        due.is("14: the greatest number", 2, () -> x.set(1, 1, 0, 999));
        changed(x, "14: 999", 1, 2, 0, 5, 999);
        due.is("14: the least number", 2, () -> x.set(1, 1, 0, -999));
        changed(x, "14: -999", 1, 2, 0, 999, -999);
        due.is("14: 0", 4, () -> x.set(1, 2, 2, 0));
        changed(x, "14: 0", 1, 4, 2, 5, 0);
        due.is("12: three edits more", edits + 3, () -> x.about(1, 4));
        due.is("46: three rows of the log more", logged + 3, () -> x.count(4));
        due.is("14: the least word", 0, () -> x.set(0, 0, 1, Due.word("z")));
        due.is("14: the least word", 0, () -> x.set(0, 0, 1, 19683));
        changed(x, "14: a", 0, 0, 1, Due.word("z"), 19683);
        due.is("14: the greatest word", 4, () -> x.set(0, 5, 1, 531440));
        changed(x, "14: zzzz", 0, 4, 1, Due.word("z"), 531440);
        due.is("14: a cell that was blank", 6, () -> x.set(0, 1, 2, 7));
        changed(x, "14: blank", 0, 6, 2, NOTHING, 7);
    }

    // "An EDIT that changes no CELL is none."
    private static void settingNothing() {
        rich.stay("14: the value that it has", 2, x -> x.set(1, 1, 0, 5));
        rich.stay("14: the value that it has", 0, x -> x.set(1, 0, 0, 8));
        rich.stay("14: the word that it has", 4, x -> x.set(0, 5, 1, Due.word("z")));
    }

    private static void refusedSet() {
        for (int view : NO_VIEWS) {
            rich.noPlace("14: no view " + view, x -> x.set(view, 0, 0, 5));
            rich.noPlace("14: no view " + view, x -> x.set(view, 9, 9, 1000));
        }
        for (int place : NO_PLACES) {
            rich.noPlace("14: no place " + place, x -> x.set(1, place, 0, 7));
            rich.noPlace("14: no place, ahead of hidden", x -> x.set(1, place, 1, 7));
            rich.noPlace("14: no place, ahead of no value", x -> x.set(1, place, 0, 1000));
        }
        for (int column : NO_COLUMNS) {
            rich.noPlace("14: no column " + column, x -> x.set(1, 0, column, 7));
            rich.noPlace("14: no column, ahead of no value", x -> x.set(1, 0, column, NOTHING));
        }
        rich.noPlace("14: an empty list", x -> x.set(3, 0, 0, 7));
        bare.noPlace("14: no rows", x -> x.set(0, 0, 0, 7));
        rich.cannot("14: hidden", x -> x.set(1, 0, 1, Due.word("q")));
        rich.cannot("14: hidden, the value that it has", x -> x.set(1, 0, 1, Due.word("a")));
        rich.cannot("14: hidden, ahead of no value", x -> x.set(1, 0, 1, NOTHING));
        rich.cannot("14: hidden", x -> x.set(2, 0, 0, 7));
        rich.cannot("14: hidden", x -> x.set(2, 0, 2, 7));
        for (int value : NO_NUMBERS) {
            rich.noNumber("14: no number " + value, x -> x.set(0, 0, 0, value));
            rich.noNumber("14: no number " + value, x -> x.set(1, 2, 2, value));
        }
        for (int value : NO_WORDS) {
            rich.noNumber("14: no word " + value, x -> x.set(0, 0, 1, value));
        }
    }

    // 15: "CLEARED: the KEY."
    private static void clearing() {
        PrivateViews x = Samples.rich();
        due.is("15: a number", 0, () -> x.clear(1, 0, 0));
        changed(x, "15: a number", 1, 0, 0, 8, NOTHING);
        due.is("15: a word", 3, () -> x.clear(2, 4, 1));
        changed(x, "15: a word", 2, 3, 1, Due.word("d"), NOTHING);
        due.is("12: an edit", 2, () -> x.about(2, 4));
        due.is("15: the last place", 4, () -> x.clear(0, 5, 2));
        changed(x, "15: the last place", 0, 4, 2, 5, NOTHING);
        rich.stay("15: what is blank", 6, y -> y.clear(0, 1, 0));
        rich.stay("15: what is blank", 1, y -> y.clear(0, 2, 2));
        rich.stay("15: what is blank", 6, y -> y.clear(2, 5, 1));
    }

    private static void refusedClear() {
        for (int view : NO_VIEWS) {
            rich.noPlace("15: no view " + view, x -> x.clear(view, 0, 0));
        }
        for (int place : NO_PLACES) {
            rich.noPlace("15: no place " + place, x -> x.clear(1, place, 0));
            rich.noPlace("15: no place, ahead of hidden", x -> x.clear(1, place, 1));
        }
        for (int column : NO_COLUMNS) {
            rich.noPlace("15: no column " + column, x -> x.clear(1, 0, column));
        }
        rich.noPlace("15: an empty list", x -> x.clear(3, 0, 0));
        bare.noPlace("15: no rows", x -> x.clear(0, 0, 0));
        rich.cannot("15: hidden", x -> x.clear(1, 0, 1));
        rich.cannot("15: hidden", x -> x.clear(2, 5, 0));
        rich.cannot("15: hidden", x -> x.clear(2, 5, 2));
    }

    // 16: "from a place to a later one: all CELLS are as the first one": "how many CELLS were changed".
    private static void filling() {
        PrivateViews x = Samples.rich();
        due.is("16: the keys", "0 6 1 2 3 4", () -> Due.list(x, 0));
        due.is("16: the column", "1 . . 1 4 5", () -> column(x, 2));
        due.is("16: to the last", 3, () -> x.fill(0, 0, 3, 2) + x.fill(0, 4, 5, 2));
        due.is("16: the column", "1 1 1 1 4 4", () -> column(x, 2));
        due.is("36: by", "1 0 0 0", () -> x.by(2, 2) + " " + x.by(6, 2) + " " + x.by(1, 2) + " " + x.by(4, 2));
        due.is("36: the first one was not changed", -1, () -> x.by(0, 2));
        due.is("43: by rows", "0 4 2 5 4|0 1 2 -1000000 1|0 6 2 -1000000 1", () -> Due.log(x, 0) + "|" + Due.log(x, 1)
                + "|" + Due.log(x, 2));
        x.clear(0, 0, 2);
        due.is("16: as a blank one", 2, () -> x.fill(0, 0, 2, 2));
        due.is("16: the column", ". . . 1 4 4", () -> column(x, 2));
        due.is("16: rows that are not seen are not filled", 2, () -> x.fill(1, 0, 2, 0));
        due.is("16: the column", "8 . 5 8 . 8", () -> column(x, 0));
        due.is("16: words", 5, () -> x.fill(2, 0, 5, 1));
        String z = "" + Due.word("z");
        due.is("16: the column", String.join(" ", z, z, z, z, z, z), () -> column(x, 1));
        rich.stay("16: one place", 0, y -> y.fill(0, 3, 3, 0));
        rich.stay("16: the last place alone", 0, y -> y.fill(0, 5, 5, 2));
        rich.stay("16: what is like", 0, y -> y.fill(1, 0, 1, 2));
    }

    private static void fillingFull() {
        PrivateViews x = Samples.full();
        due.is("16: all of 24", 23, () -> x.fill(0, 0, 23, 0));
        due.is("16: sum", 0, () -> x.sum(0, 0));
        due.is("46: the log", 23, () -> x.count(4));
        due.is("24: all of them", 23, () -> x.undo(0));
        due.is("16: sum", 276, () -> x.sum(0, 0));
        due.is("46: the log", 40, () -> x.count(4));
    }

    private static void refusedFill() {
        for (int view : NO_VIEWS) {
            rich.noPlace("16: no view " + view, x -> x.fill(view, 0, 1, 0));
            rich.noPlace("16: no view, ahead of less", x -> x.fill(view, 1, 0, 0));
        }
        for (int place : NO_PLACES) {
            rich.noPlace("16: no place from " + place, x -> x.fill(1, place, 2, 0));
            rich.noPlace("16: no place to " + place, x -> x.fill(1, 0, place, 0));
            rich.noPlace("16: no place to, ahead of less and hidden", x -> x.fill(1, 2, place, 1));
            rich.noPlace("16: no places", x -> x.fill(1, place, place, 0));
        }
        for (int column : NO_COLUMNS) {
            rich.noPlace("16: no column " + column, x -> x.fill(1, 0, 1, column));
            rich.noPlace("16: no column, ahead of less", x -> x.fill(1, 1, 0, column));
        }
        rich.noPlace("16: an empty list", x -> x.fill(3, 0, 0, 0));
        bare.noPlace("16: no rows", x -> x.fill(0, 0, 0, 0));
        rich.noNumber("16: less", x -> x.fill(1, 1, 0, 0));
        rich.noNumber("16: less", x -> x.fill(0, 5, 4, 0));
        rich.noNumber("16: less, ahead of hidden", x -> x.fill(1, 2, 1, 1));
        rich.cannot("16: hidden", x -> x.fill(1, 0, 2, 1));
        rich.cannot("16: hidden, one place", x -> x.fill(1, 1, 1, 1));
        rich.cannot("16: hidden", x -> x.fill(2, 0, 5, 2));
    }

    // 17: "all CELLS of a COLUMN in THE LIST that are a value (or BLANK) are another one (or BLANK)".
    private static void replacing() {
        PrivateViews x = Samples.rich();
        due.is("17: the column", "8 . 5 5 . 9", () -> column(x, 0));
        due.is("17: what is seen alone", 1, () -> x.replace(1, 0, 5, -999));
        due.is("17: the column", "8 . 5 -999 . 9", () -> column(x, 0));
        due.is("17: blank ones", 2, () -> x.replace(0, 0, NOTHING, 999));
        due.is("17: the column", "8 999 5 -999 999 9", () -> column(x, 0));
        due.is("43: by rows", "0 3 0 -1000000 999|0 6 0 -1000000 999", () -> Due.log(x, 0) + "|" + Due.log(x, 1));
        due.is("17: by blank", 2, () -> x.replace(0, 0, 999, NOTHING));
        due.is("17: the column", "8 . 5 -999 . 9", () -> column(x, 0));
        due.is("24: taken back", 2, () -> x.undo(0));
        due.is("17: the column", "8 999 5 -999 999 9", () -> column(x, 0));
        due.is("17: words", 1, () -> x.replace(2, 1, 531440, 19683) + x.replace(2, 1, Due.word("z"), 531440));
        due.is("17: the word", 531440, () -> x.cell(4, 1));
        rich.stay("17: none such", 0, y -> y.replace(0, 0, 7, 8));
        rich.stay("17: none such in the list", 0, y -> y.replace(1, 0, NOTHING, 8));
        rich.stay("17: by itself", 0, y -> y.replace(0, 0, 5, 5));
        rich.stay("17: blank by blank", 0, y -> y.replace(0, 0, NOTHING, NOTHING));
        rich.stay("17: an empty list", 0, y -> y.replace(3, 0, 5, 6));
        PrivateViews z = Samples.full();
        z.fill(0, 0, 23, 0);
        due.is("17: all of 24", 24, () -> z.replace(0, 0, 0, 1));
        due.is("17: what was changed is not found again", 24, () -> z.sum(0, 0));
    }

    private static void refusedReplace() {
        for (int view : NO_VIEWS) {
            rich.noPlace("17: no view " + view, x -> x.replace(view, 0, 5, 6));
            rich.noPlace("17: no view " + view, x -> x.replace(view, 9, 1000, 1000));
        }
        for (int column : NO_COLUMNS) {
            rich.noPlace("17: no column " + column, x -> x.replace(1, column, 5, 6));
            rich.noPlace("17: no column, ahead of no value", x -> x.replace(1, column, 1000, 6));
            rich.noPlace("17: no column, an empty list", x -> x.replace(3, column, 5, 6));
        }
        bare.noPlace("17: no columns", x -> x.replace(0, 0, 5, 6));
        rich.cannot("17: hidden", x -> x.replace(1, 1, Due.word("a"), Due.word("b")));
        rich.cannot("17: hidden, ahead of no value", x -> x.replace(1, 1, 5, 1000));
        rich.cannot("17: hidden", x -> x.replace(2, 0, 5, 6));
        for (int value : NO_NUMBERS) {
            if (value != NOTHING) {
                rich.noNumber("17: no number " + value, x -> x.replace(0, 0, value, 6));
                rich.noNumber("17: by no number " + value, x -> x.replace(0, 0, 5, value));
                rich.noNumber("17: by no number, an empty list", x -> x.replace(3, 0, 5, value));
            }
        }
        for (int value : NO_WORDS) {
            if (value != NOTHING) {
                rich.noNumber("17: no word " + value, x -> x.replace(0, 1, value, 19683));
                rich.noNumber("17: by no word " + value, x -> x.replace(0, 1, 19683, value));
            }
        }
    }

    // 18: "the CELLS at two places are exchanged": "how many CELLS were changed (the first place's first)".
    private static void swapping() {
        PrivateViews x = Samples.rich();
        due.is("18: the first and the last", 2, () -> x.swap(0, 0, 5, 0));
        due.is("18: the column", "9 . 5 5 . 8", () -> column(x, 0));
        due.is("43: the first place's first", "0 4 0 9 8|0 0 0 8 9", () -> Due.log(x, 0) + "|" + Due.log(x, 1));
        due.is("18: the other way", 2, () -> x.swap(0, 5, 0, 0));
        due.is("43: the first place's first", "0 0 0 9 8|0 4 0 8 9", () -> Due.log(x, 0) + "|" + Due.log(x, 1));
        due.is("18: with a blank one", 2, () -> x.swap(0, 1, 2, 0));
        due.is("18: the column", "8 5 . 5 . 9", () -> column(x, 0));
        due.is("36: by", "0 0", () -> x.by(6, 0) + " " + x.by(1, 0));
        due.is("18: words", 2, () -> x.swap(2, 0, 1, 1));
        due.is("18: the words", Due.word("z") + " " + Due.word("a"), () -> x.cell(0, 1) + " " + x.cell(4, 1));
        due.is("24: taken back", 2, () -> x.undo(2));
        int a = Due.word("a");
        int z = Due.word("z");
        due.is("43: the first changed first", "2 4 1 " + a + " " + z, () -> Due.log(x, 1));
        due.is("43: the other then", "2 0 1 " + z + " " + a, () -> Due.log(x, 0));
        rich.stay("18: what is like", 0, y -> y.swap(0, 2, 3, 0));
        rich.stay("18: both blank", 0, y -> y.swap(0, 1, 4, 0));
    }

    private static void refusedSwap() {
        for (int view : NO_VIEWS) {
            rich.noPlace("18: no view " + view, x -> x.swap(view, 0, 1, 0));
            rich.noPlace("18: no view, ahead of one place", x -> x.swap(view, 0, 0, 0));
        }
        for (int place : NO_PLACES) {
            rich.noPlace("18: no place " + place, x -> x.swap(1, place, 0, 0));
            rich.noPlace("18: no other place " + place, x -> x.swap(1, 0, place, 0));
            rich.noPlace("18: no place, ahead of one place and hidden", x -> x.swap(1, place, place, 1));
        }
        for (int column : NO_COLUMNS) {
            rich.noPlace("18: no column " + column, x -> x.swap(1, 0, 1, column));
            rich.noPlace("18: no column, ahead of one place", x -> x.swap(1, 0, 0, column));
        }
        rich.noPlace("18: an empty list", x -> x.swap(3, 0, 0, 0));
        bare.noPlace("18: no rows", x -> x.swap(0, 0, 1, 0));
        rich.noNumber("18: both places are one", x -> x.swap(0, 0, 0, 0));
        rich.noNumber("18: both places are one, the last", x -> x.swap(0, 5, 5, 2));
        rich.noNumber("18: both places are one, ahead of hidden", x -> x.swap(1, 2, 2, 1));
        rich.cannot("18: hidden", x -> x.swap(1, 0, 1, 1));
        rich.cannot("18: hidden", x -> x.swap(2, 0, 5, 2));
    }

    private static String lists(PrivateViews x) {
        return Due.list(x, 0) + "|" + Due.list(x, 1) + "|" + Due.list(x, 2) + "|" + Due.list(x, 3) + "|" + Due.order(x);
    }

    // "THE LIST of no VIEW changes by that."
    private static void listsStay() {
        Twins.Call[] edits = {x -> x.set(0, 0, 0, 99), x -> x.set(0, 1, 0, 9), x -> x.clear(0, 5, 0),
            x -> x.fill(0, 3, 5, 0), x -> x.replace(0, 0, 5, 99), x -> x.swap(0, 0, 5, 0), x -> x.undo(0),
            x -> Due.paste(x, 0, 0, 0, "99;5;.;99;9;1")};
        for (Twins.Call edit : edits) {
            PrivateViews x = Samples.rich();
            x.end(0);
            String before = lists(x);
            edit.on(x);
            due.is("2: no list changes by an edit", before, () -> lists(x));
        }
    }

    private static boolean isWord(int value) {
        if (value < 0 || value >= 531441) {
            return false;
        }
        int[] letters = {value / 19683, value / 729 % 27, value / 27 % 27, value % 27};
        int length = 0;
        for (int i = 0; i < 4; i++) {
            length = letters[i] != 0 ? i + 1 : length;
        }
        for (int i = 0; i < length; i++) {
            if (letters[i] == 0) {
                return false;
            }
        }
        return length > 0;
    }

    // 3: "of a word its letters as figures by 27 (a 1, z 26), four of them, 0 where none is".
    private static void allValues() {
        int wrong = 0;
        PrivateViews x = null;
        for (int value = -1100; value < 531500; value++) {
            if (x == null || value % 200 == 0) {
                x = new PrivateViews();
                Due.sheet(x, "columns number word;row . .");
            }
            PrivateViews y = x;
            int n = value;
            boolean number = n >= -999 && n <= 999;
            String found = Due.answerOf(() -> y.find(0, 0, n, 0));
            String foundWord = Due.answerOf(() -> y.find(0, 1, n, 0));
            wrong += found.equals(number ? "-1" : Twins.NO_NUMBER) ? 0 : 1;
            wrong += foundWord.equals(isWord(n) ? "-1" : Twins.NO_NUMBER) ? 0 : 1;
        }
        int counted = wrong;
        due.is("3: values that were taken, or refused, wrongly", 0, () -> counted);
    }
}
