/** Promises 5, 10, 11, 12 and 13 at their edges, and what "Terms" tells of the texts of a view. */
public final class EdgeViewTest {
    private static final Due due = new Due("EdgeViewTest");
    private static final Twins bare = new Twins(due, Samples::bare);
    private static final Twins rich = new Twins(due, Samples::rich);
    private static final Twins full = new Twins(due, Samples::full);
    private static final Twins wide = new Twins(due, EdgeViewTest::five);

    public static void main(String[] args) {
        emptyTexts();
        noView();
        parts();
        columnsTold();
        sortsTold();
        hiddenTold();
        filtersTold();
        nots();
        tests();
        numberTests();
        patterns();
        keptWords();
        blanks();
        numberMatches();
        wordMatches();
        fresh();
        sortedFresh();
        wrongViewStays();
        rowsAndPlaces();
        abouts();
        sorts();
        due.end();
    }

    /** Five columns, number word number word number, and two rows; view 0 is told with something of each kind. */
    private static PrivateViews five() {
        PrivateViews x = new PrivateViews();
        Due.sheet(x, "columns number word number word number;row 1 a 2 b 3;row 4 b 5 a 6");
        Due.view(x, 0, "down 4;2:2 to 5;hide 3;hide 0");
        return x;
    }

    private static void wrong(int fault, String text) {
        wide.wrong("5: wrong", fault, text, x -> x.view(0));
    }

    private static void right(String text) {
        PrivateViews x = five();
        due.is("5: right [" + text + "]", true, () -> Due.view(x, 0, text) >= 0);
        due.is("6: no fault [" + text + "]", -1, x::fault);
    }

    // "[ PART { ; PART } ]": "A text that is empty, or blanks alone, has no PART."
    private static void emptyTexts() {
        for (String text : new String[] {"", " ", " ".repeat(400)}) {
            PrivateViews x = five();
            due.is("5: all rows", 2, () -> Due.view(x, 0, text));
            due.is("12: nothing stays of what was told before", "0 0 0", () -> x.about(0, 1) + " " + x.about(0, 2) + " "
                    + x.about(0, 3));
            due.is("2: as in the order", "0 1", () -> Due.list(x, 0));
        }
        PrivateViews y = new PrivateViews();
        due.is("5: of a sheet without columns", 0, () -> Due.view(y, 3, ""));
        bare.wrong("5: no column 0", 0, "0:1", x -> x.view(0));
        bare.wrong("5: no column 0", 3, "up 0", x -> x.view(0));
        bare.wrong("5: no column 0", 7, "  hide 0", x -> x.view(0));
    }

    // "IndexOutOfBoundsException: there is no such VIEW": the TAPE is used up, no text is read.
    private static void noView() {
        for (int view : new int[] {-1, 4, 5, Integer.MAX_VALUE, Integer.MIN_VALUE}) {
            for (String text : new String[] {"", "up 0", "x"}) {
                rich.refuseText("5: no view " + view, Twins.NO_PLACE, Samples.FAULT, text, x -> x.view(view));
            }
        }
        for (int view = 0; view < 4; view++) {
            PrivateViews x = Samples.rich();
            x.end(0);
            int n = view;
            due.is("5: view " + n, 3, () -> Due.view(x, n, "2:1 or 4"));
            due.is("5: its list", "0 2 3", () -> Due.list(x, n));
        }
    }

    private static void parts() {
        wrong(0, ";");
        wrong(1, " ;up 0");
        wrong(5, "up 0;");
        wrong(7, "up 0 ; ");
        wrong(5, "up 0;;up 1");
        wrong(5, "up 0 up 1");
        wrong(4, "up 0,up 1");
        wrong(0, "x");
        wrong(0, "not");
        wrong(0, "blank");
        wrong(0, "or 1");
        wrong(0, "to 1");
        wrong(0, "Up 0");
        wrong(0, "-1:1");
        wrong(0, ":1");
        wrong(0, ".");
        wrong(0, "*");
        wrong(0, "row 1");
        right("up 0");
        right("0:1;1:a;2:2;3:b;4:3;up 0;down 1;up 2;hide 0;hide 1;hide 2;hide 3;hide 4");
        right("hide 4;up 2;4:3;hide 3;down 1;3:b;hide 2;up 0;2:2;hide 1;1:a;hide 0;0:1");
    }

    // "a number of more digits, or that tells no COLUMN": at its begin.
    private static void columnsTold() {
        for (String word : new String[] {"up ", "down ", "hide "}) {
            int at = word.length();
            right(word + "4");
            right(word + "04");
            right(word + "004");
            right(word.trim() + "0");
            wrong(at, word + "5");
            wrong(at, word + "10");
            wrong(at, word + "999");
            wrong(at, word + "0000");
            wrong(at, word + "0004");
            wrong(at, word + "-0");
            wrong(at, word + "a");
            wrong(at, word + ";");
            wrong(at, word + ".");
            wrong(at, word);
            wrong(at - 1, word.trim());
            wrong(at + 2, word + "0 0");
            wrong(0, word.trim() + "s 0");
            wrong(0, word.substring(0, 1) + " 0");
        }
        right("4:1");
        right("04:1");
        right("004 :1");
        wrong(0, "5:1");
        wrong(0, "0004:1");
        wrong(0, "999:1");
    }

    // "SORTS (at most 3)", "Of a COLUMN at most one SORT": the fourth at its first byte, a COLUMN again at its number.
    private static void sortsTold() {
        right("up 0;up 1;up 2");
        right("down 2;down 1;down 0");
        wrong(15, "up 0;up 1;up 2;up 3");
        wrong(15, "up 0;up 1;up 2;down 3");
        wrong(16, "up 0;up 1;up 2; up 0");
        wrong(15, "up 0;up 1;up 2;up");
        wrong(15, "up 0;up 1;up 2;up 9");
        wrong(8, "up 0;up 0");
        wrong(10, "up 0;down 0");
        wrong(10, "down 0;up 0");
        wrong(13, "up 0;up 1;up 00");
        wrong(14, "up 0;up 1;up  1");
    }

    // "Of a COLUMN at most one hide".
    private static void hiddenTold() {
        right("hide 0;hide 1;hide 2;hide 3;hide 4");
        wrong(12, "hide 0;hide 0");
        wrong(19, "hide 0;hide 1;hide 0");
        wrong(42, "hide 0;hide 1;hide 2;hide 3;hide 4;hide   4");
        wrong(35 + 5, "hide 0;hide 1;hide 2;hide 3;hide 4;hide 5");
    }

    // "N : TEST { or TEST }", "Of a COLUMN at most one FILTER".
    private static void filtersTold() {
        right("0:1;2:1;4:1;1:a;3:a");
        wrong(4, "0:1;0:2");
        wrong(4, "0:1;0");
        wrong(8, "0:1;1:a;00:1");
        wrong(1, "0");
        wrong(2, "0 ");
        wrong(1, "0;");
        wrong(2, "0 1");
        wrong(1, "0.1");
        wrong(2, "0:");
        wrong(3, "0: ");
        wrong(2, "0:;");
        wrong(2, "0::1");
        wrong(2, "0:or 1");
        wrong(3, "0:1:2");
        wrong(3, "0:1,2");
        wrong(4, "0:1 2");
        wrong(4, "0:1 up 0");
        wrong(4, "0:1 not 2");
        wrong(4, "0:1 blank");
        wrong(8, "0:blank 1");
        wrong(6, "0:1 or");
        wrong(6, "0:1 or;");
        wrong(7, "0:1 or or 2");
        wrong(4, "0:1 orr 2");
        right("0:1or 2");
        right("0:1or2");
    }

    // "not at most 4 times ahead of one TEST": "of a not too many, its first byte".
    private static void nots() {
        right("0:not 1");
        right("0:not not not not 1");
        right("0:not not not not blank or not not not not 1 to 2");
        right("1:not not not not a*");
        wrong(18, "0:not not not not not 1");
        wrong(19, "0:not not not not  not blank");
        wrong(18, "0:not not not not not");
        wrong(18, "1:not not not not not a");
        wrong(18, "1:not not not not not*");
        wrong(28, "0:not 1 or not not not not  not 1");
        wrong(17, "0:not not not not");
        wrong(5, "0:not");
        wrong(6, "0:not ");
        wrong(5, "0:not;");
        wrong(6, "0:not or 1");
        wrong(5, "1:not");
        wrong(6, "1:not or a");
    }

    // "at most 6 TESTS of a FILTER": "of a TEST too many, its first byte".
    private static void tests() {
        right("0:1 or 2 or 3 or 4 or 5 or 6");
        right("0:1 or 2 or 3 or 4 or 5 or not 6;2:1 or 2 or 3 or 4 or 5 or 6");
        right("1:a or b or c or d or e or blank");
        wrong(32, "0:1 or 2 or 3 or 4 or 5 or 6 or 7");
        wrong(33, "0:1 or 2 or 3 or 4 or 5 or 6 or  not 7");
        wrong(32, "0:1 or 2 or 3 or 4 or 5 or 6 or blank");
        wrong(32, "0:1 or 2 or 3 or 4 or 5 or 6 or x");
        wrong(31, "0:1 or 2 or 3 or 4 or 5 or 6 or");
        wrong(32, "0:1 or 2 or 3 or 4 or 5 or 6 or ");
        wrong(32, "1:a or b or c or d or e or f or g");
        wrong(36, "4:1;0:1 or 2 or 3 or 4 or 5 or 6 or 7");
    }

    // "of numbers: S [ to S ] (the second no less)": "of the second, if it is less", "at its -, if it has one".
    private static void numberTests() {
        right("0:999");
        right("0:-999");
        right("0:-999 to 999");
        right("0:5 to 5");
        right("0:-5 to -5");
        right("0:-5to-4");
        right("0:0 to -0");
        wrong(7, "0:5 to 4");
        wrong(8, "0:-4 to -5");
        wrong(8, "0:5 to  -5");
        wrong(9, "0:999 to 998");
        wrong(2, "0:1000");
        wrong(2, "0:-1000");
        wrong(7, "0:1 to 1000");
        wrong(7, "0:1 to -1000");
        wrong(3, "0:-");
        wrong(3, "0:- 1");
        wrong(3, "0:-not 1");
        wrong(8, "0:1 to -");
        wrong(8, "0:1 to - 1");
        wrong(6, "0:1 to");
        wrong(7, "0:1 to or 2");
        wrong(7, "0:1 to blank");
        wrong(7, "0:1 to not 2");
        wrong(9, "0:1 to 2 to 3");
        wrong(4, "0:1 too 2");
        wrong(8, "0:blank to 2");
        wrong(2, "0:to 2");
        wrong(2, "0:a");
        wrong(2, "0:?");
        wrong(2, "0:*");
        wrong(2, "0:.");
        wrong(2, "0:blanks");
        wrong(3, "0:1*");
    }

    // "a PATTERN: letters a to z and ? (1 to 4 of them), and at most one * behind these, or * alone".
    private static void patterns() {
        for (String pattern : new String[] {"a", "z", "?", "ab", "a?", "?a", "abc", "abcd", "????", "a??z", "*", "a*",
            "?*", "abcd*", "????*"}) {
            right("1:" + pattern);
            right("1:not " + pattern + " or " + pattern + ";3:" + pattern);
        }
        wrong(2, "1:abcde");
        wrong(2, "1:?????");
        wrong(2, "1:abcd?");
        wrong(2, "1:?abcd");
        wrong(2, "1:abcde*");
        wrong(7, "1:a or bcdef");
        wrong(4, "1:a**");
        wrong(7, "1:abcd**");
        wrong(3, "1:**");
        wrong(3, "1:*a");
        wrong(3, "1:*?");
        wrong(4, "1:a*a");
        wrong(4, "1:a b");
        wrong(4, "1:a ?");
        wrong(4, "1:a *");
        wrong(4, "1:? *");
        wrong(2, "1:1");
        wrong(2, "1:-1");
        wrong(2, "1:.");
        wrong(3, "1:a1");
        wrong(2, "1:A");
        wrong(2, "1:`");
        wrong(2, "1:{");
        wrong(2, "1:@");
        wrong(2, "1:>");
        wrong(4, "1:a to b");
    }

    // "what begins with one of the words or, to, not, blank, up, down, hide is no PATTERN".
    private static void keptWords() {
        for (String word : new String[] {"or", "to", "up", "down", "hide"}) {
            wrong(2, "1:" + word);
            wrong(2, "1:" + word + "*");
            wrong(2, "1:" + word + "?");
            wrong(7, "1:a or " + word);
            wrong(6, "1:not " + word);
        }
        wrong(7, "1:blank*");
        wrong(7, "1:blank?");
        right("1:not*");
        right("1:not?");
        for (String other : new String[] {"orb", "top", "note", "nota", "upon", "ups", "blan", "hid", "hido", "dow", "no",
            "o", "t", "u", "?or", "?to", "?not", "?up", "bor", "row"}) {
            right("1:" + other);
            right("1:" + other + "*");
        }
        for (String after : new String[] {"a", "m", "z"}) {
            right("1:or" + after);
            right("1:to" + after + "*");
            right("1:up" + after + "?");
            right("1:not" + after);
            wrong(0, "up" + after + " 0");
            wrong(0, "down" + after + " 0");
            wrong(0, "hide" + after + " 0");
            wrong(4, "0:1 or" + after + " 2");
            wrong(4, "0:1 to" + after + " 2");
            wrong(2, "0:not" + after + " 1");
            wrong(2, "0:blank" + after);
        }
        for (String after : new String[] {"`", "{", "A", "Z", "_"}) {
            wrong(2, "up" + after + " 0");
            wrong(4, "down" + after + " 0");
            wrong(4, "hide" + after + " 0");
            wrong(6, "0:1 or" + after + " 2");
            wrong(6, "0:1 to" + after + " 2");
            wrong(5, "0:not" + after + " 1");
            wrong(7, "0:blank" + after);
        }
        wrong(2, "1:blanks");
        wrong(2, "1:downs");
        wrong(2, "1:hides");
    }

    // "Between all (but within a PATTERN) there may be blanks (32), also ahead and behind."
    private static void blanks() {
        right("  0  :  not  not  -1  to  2  or  blank  ;  up  0  ;  hide  1  ;  1  :  a*  or  b  ");
        right("0:not not-1to2or blank;up0;hide1;1:a*or b");
        for (int sign : new int[] {0, 9, 10, 13, 160, 255}) {
            wrong(0, (char) sign + "up 0");
            wrong(2, "up" + (char) sign + "0");
            wrong(4, "up 0" + (char) sign);
            wrong(2, "0:" + (char) sign + "1");
            wrong(1, " " + (char) sign);
        }
    }

    private static String seen(String rows, String text) {
        PrivateViews x = new PrivateViews();
        Due.sheet(x, rows);
        Due.view(x, 0, text);
        return Due.list(x, 0);
    }

    // "S: if it is that number; S to S: from the one to the other; (A BLANK one is as none of the last three.)"
    private static void numberMatches() {
        String rows = "columns number;row -999;row -1;row 0;row 1;row 2;row 3;row 999;row .";
        String[][] cases = {{"0:1", "3"}, {"0:-1", "1"}, {"0:-0", "2"}, {"0:1 to 3", "3 4 5"}, {"0:2 to 2", "4"},
            {"0:-1 to 1", "1 2 3"}, {"0:-999 to 999", "0 1 2 3 4 5 6"}, {"0:-999", "0"}, {"0:999", "6"},
            {"0:4 to 998", ""}, {"0:blank", "7"}, {"0:not blank", "0 1 2 3 4 5 6"}, {"0:not 1", "0 1 2 4 5 6 7"},
            {"0:not 1 to 3", "0 1 2 6 7"}, {"0:not not 1", "3"}, {"0:not not not 1", "0 1 2 4 5 6 7"},
            {"0:not not not not 1", "3"}, {"0:not not blank", "7"}, {"0:1 or blank", "3 7"}, {"0:1 or 1", "3"},
            {"0:not 1 or 1", "0 1 2 3 4 5 6 7"}, {"0:not 1 or not 2", "0 1 2 3 4 5 6 7"},
            {"0:1 or 2 or 3 or -1 or 0 or blank", "1 2 3 4 5 7"}, {"0:7 or 7 or 7 or 7 or 7 or 3", "5"}};
        for (String[] c : cases) {
            due.is("5: as " + c[0], c[1], () -> seen(rows, c[0]));
        }
    }

    // "a PATTERN: if its letters are those, one by one, ? any one; with * more may come behind".
    private static void wordMatches() {
        String rows = "columns word;row a;row z;row ab;row az;row abc;row abcd;row zzzz;row .;row aa;row aaaa";
        String[][] cases = {{"0:a", "0"}, {"0:z", "1"}, {"0:ab", "2"}, {"0:abc", "4"}, {"0:abcd", "5"},
            {"0:zzzz", "6"}, {"0:?", "0 1"}, {"0:??", "2 3 8"}, {"0:???", "4"}, {"0:????", "5 6 9"},
            {"0:*", "0 1 2 3 4 5 6 8 9"}, {"0:?*", "0 1 2 3 4 5 6 8 9"}, {"0:??*", "2 3 4 5 6 8 9"},
            {"0:????*", "5 6 9"}, {"0:a*", "0 2 3 4 5 8 9"}, {"0:ab*", "2 4 5"}, {"0:abcd*", "5"}, {"0:a?", "2 3 8"},
            {"0:?b*", "2 4 5"}, {"0:??c", "4"}, {"0:???d", "5"}, {"0:?z", "3"}, {"0:z*", "1 6"}, {"0:b*", ""},
            {"0:blank", "7"}, {"0:not *", "7"}, {"0:not not *", "0 1 2 3 4 5 6 8 9"}, {"0:not a*", "1 6 7"},
            {"0:aaa*", "9"}, {"0:aaa", ""}, {"0:a or ab or blank", "0 2 7"}, {"0:aa?a", "9"}};
        for (String[] c : cases) {
            due.is("5: as " + c[0], c[1], () -> seen(rows, c[0]));
        }
    }

    // 2: "A ROW FITS a VIEW, if of each FILTER its CELL is as one of its TESTS." FRESH: as in THE ORDER.
    private static void fresh() {
        String rows = "columns number word;row 1 a;row 1 b;row 2 a;row . a;row 1 .";
        due.is("2: of each filter", "0", () -> seen(rows, "0:1;1:a"));
        due.is("2: of each filter", "0 1 4", () -> seen(rows, "0:1;1:a or b or blank"));
        due.is("2: without a filter all", "0 1 2 3 4", () -> seen(rows, "hide 0"));
        due.is("2: a hidden one's filter", "0 2 3", () -> seen(rows, "hide 1;1:a"));
        PrivateViews x = new PrivateViews();
        Due.sheet(x, rows);
        x.drag(0, 4, 0);
        due.is("2: as in the order", 3, () -> Due.view(x, 1, "0:1"));
        due.is("2: as in the order", "4 0 1", () -> Due.list(x, 1));
        due.is("2: other lists stay", "0 1 2 3 4", () -> Due.list(x, 2));
    }

    // 2: "sorted by its SORTS, the first one told first"; BLANK ones behind; what is like by all as in THE ORDER.
    private static void sortedFresh() {
        String numbers = "columns number;row 2;row -1;row .;row 999;row -999;row 2;row .;row 0";
        due.is("2: up", "4 1 7 0 5 3 2 6", () -> seen(numbers, "up 0"));
        due.is("2: down", "3 0 5 7 1 4 2 6", () -> seen(numbers, "down 0"));
        String words = "columns word;row b;row ab;row a;row .;row aba;row z;row zzzz;row a;row ba";
        due.is("2: words up", "2 7 1 4 0 8 5 6 3", () -> seen(words, "up 0"));
        due.is("2: words down", "6 5 8 0 4 1 2 7 3", () -> seen(words, "down 0"));
        String both = "columns number word number;row 1 b 1;row 2 a 1;row 1 a 2;row . a 1;row 1 b .;row 1 . 1";
        due.is("2: two", "2 0 4 5 1 3", () -> seen(both, "up 0;up 1"));
        due.is("2: two, the other first", "2 1 3 0 4 5", () -> seen(both, "up 1;up 0"));
        due.is("2: three", "1 2 0 4 5 3", () -> seen(both, "down 0;up 1;down 2"));
        due.is("2: three", "0 5 2 4 1 3", () -> seen(both, "up 0;up 2;up 1"));
        due.is("2: the third tells", "2 0 4 5 1 3", () -> seen(both, "up 0;up 1;up 2"));
        PrivateViews x = new PrivateViews();
        Due.sheet(x, numbers);
        x.drag(0, 5, 0);
        Due.view(x, 1, "up 0");
        due.is("2: what is like as in the order", "4 1 7 5 0 3 2 6", () -> Due.list(x, 1));
    }

    // "Of a wrong text nothing stays": the view as it was told stays, its list is not refreshed.
    private static void wrongViewStays() {
        for (String text : new String[] {"up 0;x", "0:9;1:*;x", "hide 0;hide 0", "0:1 or 2 or 3 or 4 or 5 or 6;x", "x"}) {
            for (int view = 0; view < 4; view++) {
                int n = view;
                int fault = text.equals("hide 0;hide 0") ? 12 : text.length() - 1;
                rich.wrong("5: wrong", fault, text, x -> x.view(n));
            }
        }
    }

    // 10: "NONE without"; 11: "The place of a KEY in THE LIST; NONE".
    private static void rowsAndPlaces() {
        for (int view : new int[] {-1, 4, Integer.MAX_VALUE, Integer.MIN_VALUE}) {
            rich.noPlace("10: no view " + view, x -> x.row(view, 0));
            rich.noPlace("10: no view " + view, x -> x.row(view, -1));
            rich.noPlace("11: no view " + view, x -> x.place(view, 0));
        }
        for (int place : new int[] {-1, 3, 23, 24, Integer.MAX_VALUE, Integer.MIN_VALUE}) {
            rich.stay("10: without", -1, x -> x.row(1, place));
        }
        for (int key : new int[] {-1, 5, 7, Integer.MAX_VALUE, Integer.MIN_VALUE}) {
            rich.noPlace("11: no key " + key, x -> x.place(0, key));
        }
        rich.stay("10: the first", 0, x -> x.row(1, 0));
        rich.stay("10: the last", 4, x -> x.row(1, 2));
        rich.stay("10: of none", -1, x -> x.row(3, 0));
        rich.stay("11: the first", 0, x -> x.place(1, 0));
        rich.stay("11: the last", 2, x -> x.place(1, 4));
        rich.stay("11: not in the list", -1, x -> x.place(1, 1));
        rich.stay("11: not in an empty one", -1, x -> x.place(3, 0));
        full.stay("10: the last of 24", 23, x -> x.row(0, 23));
        full.stay("10: none behind", -1, x -> x.row(0, 24));
        full.stay("11: the last of 24", 23, x -> x.place(0, 23));
        full.stay("11: turned", 0, x -> x.place(1, 23));
        bare.stay("10: no rows", -1, x -> x.row(0, 0));
        bare.noPlace("11: no rows", x -> x.place(0, 0));
    }

    // 12: "what 0 ROWS in THE LIST, 1 SORTS, 2 HIDDEN COLUMNS, 3 COLUMNS with a FILTER, 4 EDITS"; "another what".
    private static void abouts() {
        rich.stay("12: view 0", "6 0 0 0 2", x -> about(x, 0));
        rich.stay("12: view 1", "3 0 2 1 2", x -> about(x, 1));
        rich.stay("12: view 2", "6 2 5 0 1", x -> about(x, 2));
        rich.stay("12: view 3", "0 0 0 1 0", x -> about(x, 3));
        full.stay("12: a full one", "24 0 0 0 0", x -> about(x, 0));
        for (int what : new int[] {-1, 5, Integer.MAX_VALUE, Integer.MIN_VALUE}) {
            rich.noSuch("12: what " + what, x -> x.about(0, what));
            rich.noPlace("12: no view, told first", x -> x.about(4, what));
        }
        for (int view : new int[] {-1, 4, Integer.MAX_VALUE, Integer.MIN_VALUE}) {
            rich.noPlace("12: no view " + view, x -> x.about(view, 0));
        }
        PrivateViews x = five();
        Due.view(x, 1, "hide 0;hide 1;hide 2;hide 3;hide 4;0:blank;1:blank;2:blank;3:blank;4:blank;up 4;up 3;down 1");
        due.is("12: all that there may be", "0 3 31 31 0", () -> about(x, 1));
    }

    private static String about(PrivateViews x, int view) {
        return x.about(view, 0) + " " + x.about(view, 1) + " " + x.about(view, 2) + " " + x.about(view, 3) + " "
                + x.about(view, 4);
    }

    // 13: "The k-th SORT: 2 times the COLUMN, 1 more if down; NONE without."
    private static void sorts() {
        PrivateViews x = five();
        Due.view(x, 1, "down 4;up 0;down 3");
        due.is("13: three", "9 0 7 -1 -1", () -> x.sorts(1, 0) + " " + x.sorts(1, 1) + " " + x.sorts(1, 2) + " "
                + x.sorts(1, 3) + " " + x.sorts(1, -1));
        Due.view(x, 1, "up 4");
        due.is("13: one is left", "8 -1 -1", () -> x.sorts(1, 0) + " " + x.sorts(1, 1) + " " + x.sorts(1, 2));
        for (int k : new int[] {-1, 2, 3, Integer.MAX_VALUE, Integer.MIN_VALUE}) {
            rich.stay("13: without", -1, y -> y.sorts(2, k));
        }
        rich.stay("13: without any", -1, y -> y.sorts(0, 0));
        for (int view : new int[] {-1, 4, Integer.MAX_VALUE, Integer.MIN_VALUE}) {
            rich.noPlace("13: no view " + view, y -> y.sorts(view, 0));
        }
    }
}
