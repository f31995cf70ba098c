/** Promises 1 to 8: a new object, the tape, the texts and their first wrong byte. */
public final class TextTest {
    private static final Due due = new Due("TextTest");
    private static final int NOTHING = PrivateViews.NOTHING;

    public static void main(String[] args) {
        newObject();
        tape();
        sheetTexts();
        sheetFaults();
        sheetLimits();
        viewFaults();
        viewTexts();
        patterns();
        usedUp();
        due.end();
    }

    private static void newObject() {
        PrivateViews x = new PrivateViews();
        for (int what = 0; what <= 4; what++) {
            int n = what;
            due.is("new count " + n, 0, () -> x.count(n));
        }
        due.is("new fault", -1, x::fault);
        due.noPlace("new kind", () -> x.kind(0));
        due.noPlace("new cell", () -> x.cell(0, 0));
        due.is("new order", -1, () -> x.order(0));
        for (int view = 0; view < 4; view++) {
            int n = view;
            for (int what = 0; what <= 4; what++) {
                int w = what;
                due.is("new about", 0, () -> x.about(n, w));
            }
            due.is("new row", -1, () -> x.row(n, 0));
        }
        due.noPlace("row of view -1", () -> x.row(-1, 0));
        due.noPlace("row of view 4", () -> x.row(4, 0));
        due.is("the empty text of a view", 0, () -> Due.view(x, 0, "  "));
        due.is("no fault", -1, x::fault);
        due.noNumber("a column of none", () -> Due.view(x, 0, "up 0"));
        due.is("its fault", 3, x::fault);
    }

    private static void tape() {
        PrivateViews x = new PrivateViews();
        due.is("end 0 of none", true, () -> x.end(0));
        due.is("end 1 of none", false, () -> x.end(1));
        for (int i = 1; i <= 20; i++) {
            int n = i * 20;
            due.is("feed to " + n, n, () -> x.feed(0x20202020, 0x20202020, 0x20202020, 0x20202020, 0x20202020));
        }
        due.is("feed beyond 400", -1, () -> x.feed(0, 0, 0, 0, 0));
        due.is("end 401", false, () -> x.end(401));
        due.is("end -1", false, () -> x.end(-1));
        due.is("end 400", true, () -> x.end(400));
        due.is("end 381", true, () -> x.end(381));
        due.is("feed at 381", -1, () -> x.feed(0, 0, 0, 0, 0));
        due.is("end 380", true, () -> x.end(380));
        due.is("feed at 380", 400, () -> x.feed(0x20202020, 0x20202020, 0x20202020, 0x20202020, 0x20202078));
        due.noNumber("a tape of 400 bytes, the last one wrong", x::sheet);
        due.is("the last byte is the lowest of the last number", 399, x::fault);
        due.is("the tape is used up", false, () -> x.end(1));
        due.is("a number's highest byte comes first", 20, () -> x.feed(0x20200020, 0, 0, 0, 0));
        due.noNumber("a byte 0", x::sheet);
        due.is("its place", 2, x::fault);
        x.feed(-1, -1, -1, -1, -1);
        due.noNumber("bytes 255", () -> x.view(0));
        due.is("their place", 0, x::fault);
    }

    private static void sheetTexts() {
        PrivateViews x = new PrivateViews();
        due.is("an empty text counts", 1, () -> Due.sheet(x, ""));
        due.is("blanks alone count", 2, () -> Due.sheet(x, "   "));
        due.is("columns come first of all lines", 3, () -> Due.sheet(x, " columns  number word number "));
        due.is("kinds", "0 1 0", () -> x.kind(0) + " " + x.kind(1) + " " + x.kind(2));
        due.noPlace("kind -1", () -> x.kind(-1));
        due.noPlace("kind 3", () -> x.kind(3));
        due.is("rows close together", 4, () -> Due.sheet(x, "row-9ab007;row.zzzz-0 ; row 999 . -999"));
        due.is("row 0", -9 + " " + Due.word("ab") + " 7", () -> cells(x, 0));
        due.is("row 1", NOTHING + " 531440 0", () -> cells(x, 1));
        due.is("row 2", "999 " + NOTHING + " -999", () -> cells(x, 2));
        due.is("order", "0 1 2", () -> Due.order(x));
        due.is("list", "0 1 2", () -> Due.list(x, 3));
        due.noPlace("cell of key 3", () -> x.cell(3, 0));
        due.noPlace("cell of key -1", () -> x.cell(-1, 0));
        due.noPlace("cell of column 3", () -> x.cell(0, 3));
        due.noPlace("cell of column -1", () -> x.cell(0, -1));
        Due.view(x, 1, "0 : 5");
        due.is("a later text", 5, () -> Due.sheet(x, "row 5 a 1;row 6 b 2"));
        due.is("a row comes to the views that it fits", "3", () -> Due.list(x, 1));
        due.is("and to others", "0 1 2 3 4", () -> Due.list(x, 0));
    }

    private static String cells(PrivateViews x, int key) {
        return x.cell(key, 0) + " " + x.cell(key, 1) + " " + x.cell(key, 2);
    }

    private static void sheetFault(PrivateViews x, int at, String text) {
        int rows = x.count(1);
        int columns = x.count(0);
        int texts = x.count(2);
        due.noNumber("sheet " + text, () -> Due.sheet(x, text));
        due.is("fault of " + text, at, x::fault);
        due.is("nothing stays of " + text, columns + " " + rows + " " + texts,
                () -> x.count(0) + " " + x.count(1) + " " + x.count(2));
    }

    private static void sheetFaults() {
        PrivateViews x = new PrivateViews();
        sheetFault(x, 0, "row 1");
        sheetFault(x, 2, "  rows");
        sheetFault(x, 7, "columns");
        sheetFault(x, 9, "columns  ");
        sheetFault(x, 7, "columns;");
        sheetFault(x, 8, "columns numbers");
        sheetFault(x, 0, "columnsnumber");
        sheetFault(x, 14, "columns number,word");
        sheetFault(x, 33, "columns word word word word word word");
        sheetFault(x, 13, "columns word;columns word");
        sheetFault(x, 13, "columns word;");
        sheetFault(x, 15, "columns word ; ;");
        sheetFault(x, 17, "columns word;row 5");
        sheetFault(x, 19, "columns number;row a");
        sheetFault(x, 0, ";");
        Due.sheet(x, "columns number word");
        sheetFault(x, 0, "columns number");
        sheetFault(x, 5, "row 1");
        sheetFault(x, 7, "row 1  ");
        sheetFault(x, 5, "row 1;row 1 a");
        sheetFault(x, 8, "row 1 a b");
        sheetFault(x, 7, "row 1 a,b");
        sheetFault(x, 4, "row a a");
        sheetFault(x, 6, "row 1 1");
        sheetFault(x, 6, "row 1 A");
        sheetFault(x, 7, "row 1 aA");
        sheetFault(x, 5, "row - 1 a");
        sheetFault(x, 5, "row -");
        sheetFault(x, 5, "row --1 a");
        sheetFault(x, 5, "row -a a");
        sheetFault(x, 4, "row 1000 a");
        sheetFault(x, 4, "row -1000 a");
        sheetFault(x, 4, "row 0001 a");
        sheetFault(x, 6, "row 1 abcde");
        sheetFault(x, 6, "row 1 -");
        sheetFault(x, 8, "row 1 a;");
        sheetFault(x, 8, "row 1 a;up 0");
        sheetFault(x, 3, "row\t1 a");
        due.is("a right text", 2, () -> Due.sheet(x, "row 1 to"));
        due.is("takes the fault away", -1, x::fault);
    }

    private static String rows(int n) {
        StringBuilder text = new StringBuilder();
        for (int i = 0; i < n; i++) {
            text.append(i == 0 ? "" : ";").append("row ").append(i);
        }
        return text.toString();
    }

    private static void sheetLimits() {
        PrivateViews x = new PrivateViews();
        sheetFault(x, 0, rows(1));
        Due.sheet(x, "columns number");
        sheetFault(x, rows(14).length() + 1, rows(15));
        sheetFault(x, rows(14).length() + 1, rows(14) + ";");
        due.is("14 lines", 2, () -> Due.sheet(x, rows(14)));
        sheetFault(x, rows(10).length() + 1, rows(11));
        due.is("24 rows", 3, () -> Due.sheet(x, rows(10)));
        due.is("rows", 24, () -> x.count(1));
        sheetFault(x, 1, " row 1");
        sheetFault(x, 1, " row x");
        x.drop(0, 0);
        due.is("a row's room is there again", 4, () -> Due.sheet(x, "row 7"));
        due.is("its key is new", 24, () -> x.order(23));
        due.noPlace("the key that is gone", () -> x.cell(0, 0));
        due.is("keys so far", 25, () -> x.count(3));
        for (int i = 5; i <= 12; i++) {
            int n = i;
            due.is("texts", n, () -> Due.sheet(x, ""));
        }
        sheetFault(x, 0, "x");
        due.unsupported("a 13th text", () -> Due.sheet(x, " "));
        due.is("it was read", -1, x::fault);
        due.is("there are 12", 12, () -> x.count(2));
        PrivateViews y = new PrivateViews();
        String five = "columns word word word word word";
        due.is("five columns", 1, () -> Due.sheet(y, five + ";row a b c d e"));
        due.is("five columns are there", 5, () -> y.count(0));
        due.is("the fifth", Due.word("e"), () -> y.cell(0, 4));
    }

    private static void viewFault(int at, String text) {
        PrivateViews x = new PrivateViews();
        Due.sheet(x, "columns number word number word;row 1 a 2 b;row 2 b 3 c");
        Due.view(x, 0, "down 0; hide 3");
        String before = x.sorts(0, 0) + " " + x.about(0, 2) + " " + x.about(0, 3) + " " + Due.list(x, 0);
        due.noNumber("view " + text, () -> Due.view(x, 0, text));
        due.is("fault of " + text, at, x::fault);
        due.is("nothing stays of " + text, before,
                () -> x.sorts(0, 0) + " " + x.about(0, 2) + " " + x.about(0, 3) + " " + Due.list(x, 0));
    }

    private static void viewFaults() {
        viewFault(0, ";");
        viewFault(5, "up 0;");
        viewFault(7, "up 0 ; ");
        viewFault(5, "up 0 1");
        viewFault(2, "up");
        viewFault(2, "up:0");
        viewFault(3, "up -1");
        viewFault(3, "up 4");
        viewFault(3, "up 0000");
        viewFault(0, "ups 0");
        viewFault(0, "upup 0");
        viewFault(8, "up 0;up 0");
        viewFault(10, "up 0;down 0");
        viewFault(15, "up 0;up 1;up 2;up 3");
        viewFault(15, "up 0;up 1;up 2;down");
        viewFault(5, "hide 4");
        viewFault(12, "hide 1;hide 1");
        viewFault(0, "-1:1");
        viewFault(0, "4:1");
        viewFault(1, "0");
        viewFault(2, "0:");
        viewFault(2, "0:;");
        viewFault(2, "0 1");
        viewFault(4, "0:1;0:2");
        viewFault(4, "0:1;0");
        viewFault(2, "0:x");
        viewFault(2, "0:*");
        viewFault(2, "0:or");
        viewFault(6, "0:1 or");
        viewFault(4, "0:1 ors 2");
        viewFault(4, "0:1 2");
        viewFault(6, "0:1 to");
        viewFault(7, "0:1 to x");
        viewFault(7, "0:5 to 4");
        viewFault(7, "0:5 to -6");
        viewFault(7, "0:5 to 1000");
        viewFault(9, "0:5 to 6 to 7");
        viewFault(8, "0:blank to 7");
        viewFault(2, "0:blanks");
        viewFault(5, "0:not");
        viewFault(18, "0:not not not not not 1");
        viewFault(18, "1:not not not not not a");
        viewFault(32, "0:1 or 2 or 3 or 4 or 5 or 6 or 7");
        viewFault(32, "0:1 or 2 or 3 or 4 or 5 or 6 or not 7");
        viewFault(31, "0:1 or 2 or 3 or 4 or 5 or 6 or");
        viewFault(2, "1:5");
        viewFault(2, "1:.");
        viewFault(2, "1:to");
        viewFault(2, "1:to?");
        viewFault(2, "1:or*");
        viewFault(2, "1:up");
        viewFault(2, "1:down");
        viewFault(2, "1:hide*");
        viewFault(2, "1:abcde");
        viewFault(2, "1:ab?de*");
        viewFault(2, "1:?????");
        viewFault(4, "1:a**");
        viewFault(4, "1:a*b");
        viewFault(4, "1:a*?");
        viewFault(4, "1:a b");
        viewFault(4, "1:a *");
        viewFault(3, "1:**");
        viewFault(3, "1:*a");
        viewFault(7, "1:blank*");
        viewFault(7, "1:blank?");
        viewFault(3, "1:aA");
        viewFault(2, "1:A");
        PrivateViews x = new PrivateViews();
        due.noPlace("view -1", () -> Due.view(x, -1, ""));
        due.noPlace("view 4", () -> Due.view(x, 4, ""));
    }

    private static void viewTexts() {
        PrivateViews x = new PrivateViews();
        Due.sheet(x, "columns number word;row 3 c;row 1 a;row . b;row 2 .;row 3 a;row -5 zz");
        due.is("no part", 6, () -> Due.view(x, 0, ""));
        due.is("up", 6, () -> Due.view(x, 0, "up0"));
        due.is("blank ones behind", "5 1 3 0 4 2", () -> Due.list(x, 0));
        Due.view(x, 0, "down 00");
        due.is("blank ones behind, down, too", "0 4 3 1 5 2", () -> Due.list(x, 0));
        Due.view(x, 0, "down 0;up 1");
        due.is("two sorts", "4 0 3 1 5 2", () -> Due.list(x, 0));
        Due.view(x, 0, "up 1");
        due.is("words", "1 4 2 0 5 3", () -> Due.list(x, 0));
        Due.view(x, 0, "down 1;down 0");
        due.is("words down", "5 0 2 4 1 3", () -> Due.list(x, 0));
        due.is("sorts", "3 1 -1 -1", () -> x.sorts(0, 0) + " " + x.sorts(0, 1) + " " + x.sorts(0, 2) + " "
                + x.sorts(0, -1));
        due.noPlace("sorts of view 4", () -> x.sorts(4, 0));
        due.is("a number", 2, () -> Due.view(x, 0, "0:3"));
        due.is("no sorts stay", 0, () -> x.about(0, 1));
        due.is("a span", 3, () -> Due.view(x, 0, "0: 1to2 or -5"));
        due.is("its list", "1 3 5", () -> Due.list(x, 0));
        due.is("a span of one", 1, () -> Due.view(x, 0, "0:2 to 2"));
        due.is("not a number takes the blank one", 4, () -> Due.view(x, 0, "0:not 3"));
        due.is("blank", 1, () -> Due.view(x, 0, "0:blank"));
        due.is("not blank", 5, () -> Due.view(x, 0, "0:not blank"));
        due.is("not not blank", 1, () -> Due.view(x, 0, "0:not not blank"));
        due.is("not four times", 2, () -> Due.view(x, 0, "0:not not not not 3"));
        due.is("not three times", 4, () -> Due.view(x, 0, "0:not not not3"));
        due.is("six tests", 6, () -> Due.view(x, 0, "0:1 or 2 or 3 or -5 or blank or not blank"));
        due.is("two filters", 1, () -> Due.view(x, 0, "0:3;1:a;hide 1;hide 0"));
        due.is("filtered", 3, () -> x.about(0, 3));
        due.is("hidden", 3, () -> x.about(0, 2));
        due.is("one filter", 2, () -> Due.view(x, 0, "1:a;hide 1"));
        due.is("filtered", 2, () -> x.about(0, 3));
        due.is("hidden", 2, () -> x.about(0, 2));
        due.noSuch("about 5", () -> x.about(0, 5));
        due.noSuch("about -1", () -> x.about(0, -1));
        due.noPlace("about of view 4, 5", () -> x.about(4, 5));
    }

    private static void pattern(PrivateViews x, String keys, String text) {
        Due.view(x, 0, text);
        due.is("pattern " + text, keys, () -> Due.list(x, 0));
    }

    private static void patterns() {
        PrivateViews x = new PrivateViews();
        Due.sheet(x, "columns word;row a;row ab;row abc;row abcd;row .;row b;row not;row note;row or");
        pattern(x, "0", "0:a");
        pattern(x, "0 1 2 3", "0:a*");
        pattern(x, "1 2 3", "0:a?*");
        pattern(x, "3", "0:abcd*");
        pattern(x, "0 5", "0:?");
        pattern(x, "1 8", "0:??");
        pattern(x, "3 7", "0:????");
        pattern(x, "0 1 2 3 5 6 7 8", "0:*");
        pattern(x, "4", "0:not*");
        pattern(x, "1 2 3 4 6 7 8", "0:not?");
        pattern(x, "7", "0:note");
        pattern(x, "7", "0:note*");
        pattern(x, "6 7", "0:no?*");
        pattern(x, "6 8", "0:?ot or o?");
        pattern(x, "0 1 2 3 5", "0:a*or b");
        pattern(x, "4 5", "0:blank or b");
        pattern(x, "", "0:zz");
    }

    private static void usedUp() {
        PrivateViews x = new PrivateViews();
        Due.sheet(x, "columns number;row 1");
        due.noNumber("wrong", () -> Due.view(x, 0, "x"));
        Due.feed(x, "  y");
        due.noPlace("no such view", () -> x.view(7));
        due.is("the tape is used up", false, () -> x.end(1));
        due.is("no text was read", 0, x::fault);
        Due.view(x, 0, "hide 0");
        due.noNumber("wrong", () -> Due.view(x, 1, " x"));
        Due.feed(x, "  y");
        due.cannot("hidden", () -> x.paste(0, 0, 0));
        due.is("no text was read", 1, x::fault);
        due.is("the tape is used up", false, () -> x.end(1));
    }
}
