/** Every text of a few words and signs, read by the class and by the model: both must say the same of it. */
public final class GrammarTest {
    private static final String[] VIEW = {" ", "0", "1", "2", "3", ":", "up", "down", "hide", "not", "or", "to", "blank",
        "?", "*", "-", "ab", ";", "12", "1234", "X"};
    private static final String[] VIEW_MORE = {" ", "0", "1", ":", "up", "not", "or", "to", "blank", "?", "*", "-", "a",
        ";"};
    private static final String[] VIEW_BEGINS = {"0:1", "1:a", "0 : 1 to 2", "1:not not not not", "1:*", "0:blank or",
        "1:?or", "up 0;", "0:1 or 2 or 3 or 4 or 5 or", "up 0;up 1;down 2;"};
    private static final String[] SHEET = {" ", "columns", "number", "word", "row", "1", ".", "-", "ab", ";", "1234", "X",
        "abcde"};
    private static final String[] PASTE = {" ", ",", ".", "-", "1", "ab", ";", "1234", "abcde", "X"};

    private interface Reading {
        String told(String text);
    }

    private final Reading byClass;
    private final Reading byModel;
    private int read;
    private int wrong;

    private GrammarTest(Reading byClass, Reading byModel) {
        this.byClass = byClass;
        this.byModel = byModel;
    }

    public static void main(String[] args) {
        GrammarTest views = new GrammarTest(GrammarTest::viewByClass, GrammarTest::viewByModel);
        views.readAll(VIEW, "", 3);
        for (String begin : VIEW_BEGINS) {
            views.readAll(VIEW_MORE, begin, 3);
        }
        GrammarTest sheets = new GrammarTest(GrammarTest::sheetByClass, GrammarTest::sheetByModel);
        sheets.readAll(SHEET, "", 4);
        sheets.readAll(SHEET, "columns number word;row 1", 4);
        GrammarTest pastes = new GrammarTest(GrammarTest::pasteByClass, GrammarTest::pasteByModel);
        pastes.readAll(PASTE, "", 4);
        pastes.readAll(PASTE, "ab,1;", 4);
        int all = views.wrong + sheets.wrong + pastes.wrong;
        System.out.println("GrammarTest: " + (views.read + sheets.read + pastes.read) + " texts, " + all + " wrong");
        System.exit(all == 0 ? 0 : 1);
    }

    private void readAll(String[] things, String text, int more) {
        read++;
        String got = byClass.told(text);
        String want = byModel.told(text);
        if (!got.equals(want)) {
            wrong++;
            System.out.println("GrammarTest: [" + text + "] answered " + got + ", due is " + want);
        }
        for (int i = 0; more > 0 && i < things.length; i++) {
            readAll(things, text + things[i], more - 1);
        }
    }

    private static final String ROWS = "columns number word number;row 1 a 5;row . ab .;row -2 . 7";

    private static String viewByClass(String text) {
        PrivateViews x = new PrivateViews();
        Due.sheet(x, ROWS);
        return Due.answerOf(() -> Due.view(x, 0, text)) + " " + x.fault() + " " + x.about(0, 1) + " " + x.about(0, 2)
                + " " + x.about(0, 3) + " " + x.row(0, 0);
    }

    private static String viewByModel(String text) {
        Model x = new Model();
        feed(x, ROWS);
        x.sheet();
        feed(x, text);
        return Due.answerOf(() -> x.view(0)) + " " + x.fault() + " " + x.about(0, 1) + " " + x.about(0, 2)
                + " " + x.about(0, 3) + " " + x.row(0, 0);
    }

    private static String sheetByClass(String text) {
        PrivateViews x = new PrivateViews();
        return Due.answerOf(() -> Due.sheet(x, text)) + " " + x.fault() + " " + x.count(0) + " " + x.count(1);
    }

    private static String sheetByModel(String text) {
        Model x = new Model();
        feed(x, text);
        return Due.answerOf(x::sheet) + " " + x.fault() + " " + x.count(0) + " " + x.count(1);
    }

    /** Through a view that hides the first column. */
    private static String pasteByClass(String text) {
        PrivateViews x = new PrivateViews();
        Due.sheet(x, ROWS);
        Due.view(x, 0, "hide 0");
        return Due.answerOf(() -> Due.paste(x, 0, 1, 1, text)) + " " + x.fault() + " " + x.count(1) + " " + x.cell(1, 1)
                + " " + x.cell(1, 2) + " " + x.cell(2, 1);
    }

    private static String pasteByModel(String text) {
        Model x = new Model();
        feed(x, ROWS);
        x.sheet();
        feed(x, "hide 0");
        x.view(0);
        feed(x, text);
        return Due.answerOf(() -> x.paste(0, 1, 1)) + " " + x.fault() + " " + x.count(1) + " " + x.cell(1, 1)
                + " " + x.cell(1, 2) + " " + x.cell(2, 1);
    }

    private static void feed(Model x, String text) {
        for (int i = 0; i < text.length(); i += 20) {
            int[] n = new int[5];
            for (int j = 0; j < 20; j++) {
                n[j / 4] = n[j / 4] << 8 | (i + j < text.length() ? text.charAt(i + j) : 0);
            }
            x.feed(n[0], n[1], n[2], n[3], n[4]);
        }
        x.end(text.length());
    }
}
