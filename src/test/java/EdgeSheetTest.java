/** Promises 4, 7, 8 and 9 at their edges, and what "Terms" tells of the texts of the sheet. */
public final class EdgeSheetTest {
    private static final Due due = new Due("EdgeSheetTest");
    private static final int NOTHING = PrivateViews.NOTHING;
    private static final Twins bare = new Twins(due, PrivateViews::new);
    private static final Twins told = new Twins(due, EdgeSheetTest::two);
    private static final Twins rich = new Twins(due, Samples::rich);
    private static final Twins full = new Twins(due, Samples::full);

    public static void main(String[] args) {
        emptyTexts();
        texts();
        wrongTexts();
        lines();
        columnLines();
        rowLines();
        numbers();
        words();
        blanks();
        rows();
        fullSheet();
        cutWords();
        toldRows();
        kindsAndCells();
        orders();
        due.end();
    }

    /** Two columns, number and word, no row. */
    private static PrivateViews two() {
        PrivateViews x = new PrivateViews();
        Due.sheet(x, "columns number word");
        return x;
    }

    private static void wrong(Twins twins, int fault, String text) {
        twins.wrong("4: wrong", fault, text, PrivateViews::sheet);
    }

    private static String cells(PrivateViews x, int key) {
        StringBuilder cells = new StringBuilder();
        for (int column = 0; column < x.count(0); column++) {
            int value = x.cell(key, column);
            cells.append(column == 0 ? "" : " ").append(value == NOTHING ? "." : String.valueOf(value));
        }
        return cells.toString();
    }

    private static void right(String want, String text) {
        PrivateViews x = two();
        due.is("4: right [" + text + "]", 2, () -> Due.sheet(x, text));
        due.is("4: its cells [" + text + "]", want, () -> cells(x, 0));
    }

    // "A text that is empty, or blanks alone, has no LINE."
    private static void emptyTexts() {
        PrivateViews x = new PrivateViews();
        due.is("4: an empty text is one", 1, () -> Due.sheet(x, ""));
        due.is("4: blanks alone are one", 2, () -> Due.sheet(x, " "));
        due.is("4: 400 blanks are one", 3, () -> Due.sheet(x, " ".repeat(400)));
        due.is("4: no columns came", 0, () -> x.count(0));
        due.is("4: no rows came", 0, () -> x.count(1));
        due.is("4: three texts", 3, () -> x.count(2));
        due.is("4: columns are yet the first line of all", 4, () -> Due.sheet(x, "columns word"));
        due.is("4: an empty text later", 5, () -> Due.sheet(x, ""));
    }

    private static PrivateViews elevenTexts() {
        PrivateViews x = two();
        for (int i = 2; i <= 11; i++) {
            Due.sheet(x, "row " + i + " a");
        }
        return x;
    }

    private static PrivateViews twelveTexts() {
        PrivateViews x = elevenTexts();
        Due.sheet(x, "row 12 .");
        return x;
    }

    // "texts (at most 12)"; "UnsupportedOperationException: there are 12", behind "it is wrong".
    private static void texts() {
        PrivateViews x = elevenTexts();
        due.noNumber("4: a wrong text is none", () -> Due.sheet(x, "row"));
        due.is("4: the twelfth", 12, () -> Due.sheet(x, "row 12 ."));
        due.is("4: twelve", 12, () -> x.count(2));
        Twins twelve = new Twins(due, EdgeSheetTest::twelveTexts);
        String none = Twins.UNSUPPORTED;
        twelve.refuseText("4: a thirteenth", none, -1, "row 1 b", PrivateViews::sheet);
        twelve.refuseText("4: a thirteenth", none, -1, "", PrivateViews::sheet);
        twelve.refuseText("4: a thirteenth", none, -1, "  ", PrivateViews::sheet);
        wrong(twelve, 8, "row 1 b;");
        wrong(twelve, 0, "columns word");
        PrivateViews y = twelveTexts();
        due.is("5: texts of views do not count", 11, () -> Due.view(y, 0, ""));
        due.is("19: what is pasted neither", 1, () -> Due.paste(y, 0, 0, 0, "7"));
        due.is("4: twelve", 12, () -> y.count(2));
    }

    // "Of a wrong text nothing stays."
    private static void wrongTexts() {
        wrong(bare, 0, "x");
        wrong(bare, 28, "columns number word;row 1 a;x");
        wrong(bare, 27, "columns number word;row 1 a,row 2 b");
        wrong(told, 14, "row 1 a;row 2 2");
        wrong(rich, 10, "row 1 a 1;x");
        wrong(rich, 16, "row 5 a 1;row 9 9 9");
        PrivateViews x = new PrivateViews();
        due.noNumber("4: wrong behind its columns", () -> Due.sheet(x, "columns word;x"));
        due.noNumber("5: there are none", () -> Due.view(x, 0, "up 0"));
        due.is("6: no such column", 3, x::fault);
        due.noNumber("5: there are none", () -> Due.view(x, 0, "0:a"));
        due.is("6: no such column", 0, x::fault);
        due.noPlace("7: there are none", () -> x.kind(0));
        due.is("4: columns may come yet", 1, () -> Due.sheet(x, "columns number"));
        due.is("4: as told then", 0, () -> x.kind(0));
        due.noNumber("4: wrong behind a row", () -> Due.sheet(x, "row 1;x"));
        Due.sheet(x, "row 2");
        due.is("4: no key was used by it", 0, () -> x.order(0));
    }

    // "LINE { ; LINE }, at most 14"; "of a LINE too many, its first byte".
    private static void lines() {
        PrivateViews x = new PrivateViews();
        due.is("4: 14 lines", 1, () -> Due.sheet(x, "columns number;" + Samples.rows(0, 13)));
        due.is("4: 13 rows", 13, () -> x.count(1));
        PrivateViews y = new PrivateViews();
        Due.sheet(y, "columns number");
        due.is("4: 14 rows", 2, () -> Due.sheet(y, Samples.rows(0, 14) + "  "));
        String most = "columns number;" + Samples.rows(0, 13);
        wrong(bare, most.length() + 1, most + ";row 14");
        wrong(bare, most.length() + 4, most + " ;  row 14");
        wrong(bare, most.length() + 1, most + ";x");
        wrong(bare, most.length() + 1, most + ";");
        wrong(bare, most.length() + 3, most + " ; ");
        wrong(bare, most.length() + 1, most + ";;");
        wrong(told, 0, ";");
        wrong(told, 2, "  ;row 1 a");
        wrong(told, 8, "row 1 a;;row 1 a");
        wrong(told, 8, "row 1 a;");
        wrong(told, 10, "row 1 a ; ");
        wrong(told, 8, "row 1 a row 1 a");
        wrong(told, 7, "row 1 a,");
        wrong(told, 7, "row 1 a:row 2 b");
    }

    // "columns: just once, as the first LINE of all texts, else it is wrong at that word; a 6th KIND is wrong".
    private static void columnLines() {
        for (int kinds = 1; kinds <= 5; kinds++) {
            PrivateViews x = new PrivateViews();
            int n = kinds;
            due.is("4: kinds " + n, 1, () -> Due.sheet(x, "columns" + " word".repeat(n - 1) + " number"));
            due.is("4: columns " + n, n, () -> x.count(0));
            due.is("7: the last one", 0, () -> x.kind(n - 1));
        }
        wrong(bare, 33, "columns word word word word word word");
        wrong(bare, 44, "columns number number number number number  number");
        wrong(bare, 33, "columns word word word word word x");
        wrong(bare, 7, "columns");
        wrong(bare, 8, "columns ");
        wrong(bare, 7, "columns;row 1");
        wrong(bare, 8, "columns 1");
        wrong(bare, 8, "columns columns");
        wrong(bare, 8, "columns words");
        wrong(bare, 8, "columns wor");
        wrong(bare, 8, "columns numberword");
        wrong(bare, 12, "columns word,number");
        wrong(bare, 12, "columns wordNumber");
        wrong(bare, 0, "columnsword");
        wrong(bare, 0, "column word");
        wrong(bare, 0, "Columns word");
        wrong(bare, 15, "columns number;columns number");
        wrong(bare, 23, "columns number; row 1; columns number");
        wrong(told, 0, "columns number word");
        wrong(told, 9, "row 1 a; columns number word");
        wrong(told, 2, "  columns");
    }

    // "row: as many V as there are COLUMNS, each as its COLUMN asks"; "without COLUMNS row is wrong at that word".
    private static void rowLines() {
        wrong(bare, 0, "row 1");
        wrong(bare, 3, "   row");
        wrong(bare, 0, "row 1;columns number");
        wrong(told, 3, "row");
        wrong(told, 5, "row  ");
        wrong(told, 5, "row 1");
        wrong(told, 5, "row 1;row 1 a");
        wrong(told, 8, "row 1 a a");
        wrong(told, 8, "row 1 a 1");
        wrong(told, 8, "row 1 a .");
        wrong(told, 4, "row a a");
        wrong(told, 4, "row a 1");
        wrong(told, 6, "row 1 1");
        wrong(told, 6, "row 1 -1");
        wrong(told, 6, "row . 0");
        wrong(told, 0, "rows 1 a");
        wrong(told, 0, "Row 1 a");
        wrong(told, 0, "ro 1 a");
        wrong(told, 0, "rowa a");
        right("1 19683", "row 1 a");
        right(". .", "row . .");
        right(". .", "row..");
        right("1 .", "row1.");
        right(". 19683", "row.a");
    }

    // "S: N, or - and N right behind it; N of 1 to 3 digits"; more digits: at the begin, at its -, if it has one.
    private static void numbers() {
        right("0 .", "row 0 .");
        right("0 .", "row -0 .");
        right("0 .", "row -000 .");
        right("7 .", "row 007 .");
        right("999 .", "row 999 .");
        right("-999 .", "row -999 .");
        right("-1 19683", "row-1a");
        right("123 21141", "row 123ab");
        wrong(told, 4, "row 1000 a");
        wrong(told, 4, "row 0000 a");
        wrong(told, 4, "row -1000 a");
        wrong(told, 4, "row -0000 a");
        wrong(told, 4, "row 12345678901234567890 a");
        wrong(told, 5, "row -");
        wrong(told, 5, "row - 1 a");
        wrong(told, 5, "row --1 a");
        wrong(told, 5, "row -a");
        wrong(told, 5, "row -. a");
        wrong(told, 5, "row -; a");
        wrong(told, 4, "row +1 a");
        wrong(told, 5, "row 1/ a");
        wrong(told, 4, "row / a");
        wrong(told, 4, "row : a");
        wrong(told, 6, "row 1.5 a");
        wrong(told, 5, "row 1-1 a");
    }

    // "a word of 1 to 4 letters a to z"; words that texts of views keep are words of cells as well.
    private static void words() {
        right("1 " + Due.word("a"), "row 1 a");
        right("1 " + Due.word("z"), "row 1 z");
        right("1 " + Due.word("az"), "row 1 az");
        right("1 " + Due.word("abc"), "row 1 abc");
        right("1 531440", "row 1 zzzz");
        right("1 " + Due.word("aaaa"), "row 1 aaaa");
        for (String kept : new String[] {"or", "to", "not", "up", "down", "hide", "row", "word"}) {
            right("1 " + Due.word(kept), "row 1 " + kept);
        }
        wrong(told, 6, "row 1 abcde");
        wrong(told, 6, "row 1 blank");
        wrong(told, 6, "row 1 abcdefghijklmnopqrstuvwxyz");
        wrong(told, 6, "row 1 A");
        wrong(told, 8, "row 1 abZ");
        wrong(told, 6, "row 1 `");
        wrong(told, 6, "row 1 {");
        wrong(told, 7, "row 1 a`");
        wrong(told, 7, "row 1 z{");
        wrong(told, 6, "row 1 ?");
        wrong(told, 7, "row 1 a?");
        wrong(told, 7, "row 1 a*");
        wrong(told, 6, "row 1 *");
    }

    // "Between all there may be blanks (32), also ahead and behind."
    private static void blanks() {
        right("-1 19683", "   row   -1   a   ");
        PrivateViews x = new PrivateViews();
        due.is("4: blanks between all", 1, () -> Due.sheet(x, "  columns  number  word  ;  row  1  a  ;  row  .  .  "));
        due.is("4: both rows", 2, () -> x.count(1));
        PrivateViews y = new PrivateViews();
        due.is("4: no blank but between words", 1, () -> Due.sheet(y, "columns number word;row1a;row.."));
        due.is("4: both rows", 2, () -> y.count(1));
        for (int sign : new int[] {0, 9, 10, 13, 31, 33, 160, 255}) {
            wrong(told, 0, (char) sign + "row 1 a");
            wrong(told, 3, "row" + (char) sign + "1 a");
            wrong(told, 7, "row 1 a" + (char) sign);
            wrong(told, 1, " " + (char) sign);
        }
    }

    // "ROWS (at most 24)"; "a 25th ROW is wrong at its first word".
    private static void rows() {
        wrong(full, 0, "row 1");
        wrong(full, 2, "  row 1;row 2");
        wrong(full, 0, "row");
        wrong(full, 0, "row x");
        Twins fewer = new Twins(due, EdgeSheetTest::twentyThree);
        wrong(fewer, 7, "row 23;row 24");
        wrong(fewer, 9, " row 23; row 24");
        PrivateViews x = twentyThree();
        due.is("4: the 24th row", 4, () -> Due.sheet(x, "row 7"));
        due.is("4: 24 rows", 24, () -> x.count(1));
        due.is("4: a text without a row", 5, () -> Due.sheet(x, " "));
        x.drop(0, 3);
        due.is("4: where one is gone", 6, () -> Due.sheet(x, "row 8"));
        due.is("4: 24 rows", 24, () -> x.count(1));
        due.is("4: the 26th key", 25, () -> x.order(23));
        due.is("4: keys so far", 26, () -> x.count(3));
        due.noPlace("4: no key is used again", () -> x.cell(3, 0));
    }

    /** 23 rows: keys 0 to 22 and 24; 23 is gone. */
    private static PrivateViews twentyThree() {
        PrivateViews x = new PrivateViews();
        Due.sheet(x, "columns number");
        Due.sheet(x, Samples.rows(0, 14));
        Due.sheet(x, Samples.rows(14, 24));
        x.drop(0, 23);
        return x;
    }

    private static String wideRows(int from, int to) {
        StringBuilder text = new StringBuilder();
        for (int i = from; i < to; i++) {
            text.append(i == from ? "" : ";").append("row ").append(i).append(" a -").append(i).append(" . ").append(i + 1);
        }
        return text.toString();
    }

    // 14 LINES of 5 CELLS in one text, 24 ROWS of 5 CELLS in all.
    private static void fullSheet() {
        PrivateViews x = new PrivateViews();
        Due.sheet(x, "columns number word number word number");
        due.is("4: 14 rows of five", 2, () -> Due.sheet(x, wideRows(0, 14)));
        due.is("4: 10 rows more", 3, () -> Due.sheet(x, wideRows(14, 24)));
        for (int i = 0; i < 24; i++) {
            int key = i;
            due.is("8: row " + key, key + " 19683 " + -key + " . " + (key + 1), () -> cells(x, key));
        }
        due.is("14: the last cell", 23, () -> x.set(3, 23, 4, -7));
        due.is("8: the last cell", -7, () -> x.cell(23, 4));
        due.is("36: by", 3, () -> x.by(23, 4));
        due.is("36: by none", "-1 -1", () -> x.by(23, 3) + " " + x.by(22, 4));
        PrivateViews y = new PrivateViews();
        Due.sheet(y, "columns number word number word number;" + wideRows(0, 13));
        due.is("8: the last line's last cell", 13, () -> y.cell(12, 4));
    }

    // "Words in texts are as long as a to z go on": up to the text's end, whatever stood behind it on the TAPE.
    private static void cutWords() {
        PrivateViews x = new PrivateViews();
        Due.feed(x, "columns wordword");
        x.end(12);
        due.is("4: cut", 1, x::sheet);
        Due.feed(x, "row abcdefgh");
        x.end(8);
        due.is("4: cut", 2, x::sheet);
        due.is("8: the word", Due.word("abcd"), () -> x.cell(0, 0));
        Due.feed(x, "0:blanks");
        x.end(7);
        due.is("5: cut", 0, () -> x.view(0));
        due.is("5: a text of 400 bytes that a word ends", 0, () -> Due.view(x, 0, " ".repeat(393) + "0:blank"));
        due.is("5: a text of 400 bytes that a pattern ends", 1, () -> Due.view(x, 0, " ".repeat(395) + "0:ab*"));
        due.is("4: a text of 400 bytes that a word ends", 3, () -> Due.sheet(x, " ".repeat(392) + "row wxyz"));
        due.is("8: the word", Due.word("wxyz"), () -> x.cell(1, 0));
        for (String after : new String[] {"a", "m", "z"}) {
            wrong(bare, 0, "columns" + after + " word");
            wrong(bare, 8, "columns word" + after);
            wrong(bare, 8, "columns number" + after);
            wrong(told, 0, "row" + after + " 1 a");
        }
        for (String after : new String[] {"`", "{", "A", "Z", "_"}) {
            wrong(bare, 7, "columns" + after + " word");
            wrong(bare, 12, "columns word" + after);
            wrong(told, 3, "row" + after + " 1 a");
        }
    }

    // "A ROW that is told comes last in THE ORDER, and last in THE LIST of each VIEW that it FITS."
    private static void toldRows() {
        PrivateViews x = two();
        Due.view(x, 1, "0:5");
        Due.view(x, 2, "up 0");
        Due.view(x, 3, "0:5;1:b");
        Due.sheet(x, "row 9 a;row 5 b");
        Due.sheet(x, "row 5 c;row 1 b");
        x.drag(0, 3, 0);
        Due.sheet(x, "row 0 b");
        due.is("4: last in the order", "3 0 1 2 4", () -> Due.order(x));
        due.is("4: last in a list", "3 0 1 2 4", () -> Due.list(x, 0));
        due.is("4: where it fits", "1 2", () -> Due.list(x, 1));
        due.is("4: last, and not sorted", "0 1 2 3 4", () -> Due.list(x, 2));
        due.is("4: where it fits by both", "1", () -> Due.list(x, 3));
        due.is("36: by none", "-1 -1", () -> x.by(1, 0) + " " + x.by(1, 1));
        due.is("43: no log", 0, () -> x.count(4));
        due.is("12: no edit", 0, () -> x.about(0, 4));
    }

    // 7, 8: "there is no such COLUMN, KEY of a ROW that there is".
    private static void kindsAndCells() {
        for (int column : new int[] {-1, 3, 4, 5, Integer.MAX_VALUE, Integer.MIN_VALUE}) {
            rich.noPlace("7: kind " + column, x -> x.kind(column));
            rich.noPlace("8: cell of column " + column, x -> x.cell(0, column));
        }
        for (int key : new int[] {-1, 5, 7, 24, Integer.MAX_VALUE, Integer.MIN_VALUE}) {
            rich.noPlace("8: cell of key " + key, x -> x.cell(key, 0));
            rich.noPlace("8: cell of key " + key, x -> x.cell(key, 3));
        }
        bare.noPlace("7: no columns", x -> x.kind(0));
        bare.noPlace("8: no columns", x -> x.cell(0, 0));
        told.noPlace("8: no rows", x -> x.cell(0, 0));
        rich.stay("7: the last kind", 0, x -> x.kind(2));
        rich.stay("7: a word's", 1, x -> x.kind(1));
        rich.stay("8: a cell of the latest key is blank", NOTHING, x -> x.cell(6, 2));
        rich.stay("8: a cell", 8, x -> x.cell(0, 0));
    }

    // 9: "The KEY at a place of THE ORDER; NONE without."
    private static void orders() {
        rich.stay("9: the first", 0, x -> x.order(0));
        rich.stay("9: the last", 4, x -> x.order(5));
        full.stay("9: the last of 24", 23, x -> x.order(23));
        for (int place : new int[] {-1, 6, 23, 24, Integer.MAX_VALUE, Integer.MIN_VALUE}) {
            rich.stay("9: without", -1, x -> x.order(place));
        }
        full.stay("9: without", -1, x -> x.order(24));
        full.stay("9: without", -1, x -> x.order(25));
        bare.stay("9: without rows", -1, x -> x.order(0));
    }
}
