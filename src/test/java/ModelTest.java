import java.lang.reflect.InvocationTargetException;
import java.lang.reflect.Method;
import java.util.ArrayList;
import java.util.Arrays;
import java.util.List;
import java.util.Random;

/** Runs of calls by chance (the same ones each time) on the class and on the model: both must answer alike. */
public final class ModelTest {
    private static final String[] WORDS = {"a", "b", "ab", "abc", "abcd", "to", "not", "or", "zz", "note"};
    private static final String[] PATTERNS = {"a", "a*", "?", "??", "*", "a?*", "b", "abcd*", "not?", "z?", "note"};
    private static final String[] NOISE = {" ", ";", ":", ",", "*", "?", "-", ".", "0", "9", "1000", "a", "or", "to",
        "not", "blank", "up", "down", "hide", "row", "columns", "word", "number", "Z", "\u00e9", "\0", " not not not not not "};

    /** What an object answers behind that many calls is free. */
    private static final int MOST_CALLS = 512;

    private final Random random;
    private final PrivateViews x = new PrivateViews();
    private final Model model = new Model();
    private final List<String> trail = new ArrayList<>();
    private int calls = 0;
    private int columns = 0;
    private boolean[] words = new boolean[0];

    private ModelTest(long seed) {
        random = new Random(seed);
    }

    public static void main(String[] args) throws Exception {
        int runs = args.length > 0 ? Integer.parseInt(args[0]) : 3000;
        for (int seed = 0; seed < runs; seed++) {
            new ModelTest(seed).run(seed);
        }
        System.out.println("ModelTest: " + runs + " runs, all alike");
    }

    private void run(int seed) throws Exception {
        while (calls < MOST_CALLS) {
            if (!step()) {
                System.out.println("ModelTest: run " + seed + " differs");
                trail.subList(Math.max(0, trail.size() - 25), trail.size()).forEach(System.out::println);
                System.exit(1);
            }
        }
    }

    private int upTo(int n) {
        return random.nextInt(n);
    }

    private <T> T one(T[] of) {
        return of[upTo(of.length)];
    }

    private boolean step() throws Exception {
        int chance = upTo(100);
        if (model.count(0) == 0 && chance < 50 || chance < 3) {
            return feed(sheetText()) && same("sheet") && same("fault") && knowColumns();
        }
        if (chance < 11) {
            return feed(viewText()) && same("view", viewNumber()) && same("fault");
        }
        if (chance < 17) {
            int view = viewNumber();
            int column = column();
            return feed(pasteText(view, column)) && same("paste", view, place(view), column) && same("fault");
        }
        if (chance < 19) {
            return same("end", upTo(30) - 2) && same("feed", random.nextInt(), random.nextInt(), 0, -1, 0x20202020);
        }
        return chance < 60 ? edit() : ask();
    }

    private boolean knowColumns() {
        columns = model.count(0);
        words = new boolean[columns];
        for (int c = 0; c < columns; c++) {
            words[c] = model.kind(c) == 1;
        }
        return true;
    }

    private boolean edit() throws Exception {
        int view = viewNumber();
        int column = column();
        switch (upTo(14)) {
            case 0: case 1: case 2:
                return same("set", view, place(view), column, value(column));
            case 3:
                return same("clear", view, place(view), column);
            case 4: case 5:
                return same("fill", view, place(view), place(view), column);
            case 6:
                return same("replace", view, column, value(column), value(column));
            case 7:
                return same("swap", view, place(view), place(view), column);
            case 8:
                return same("add", view, place(view));
            case 9:
                return same("drop", view, place(view));
            case 10:
                return same("drag", view, place(view), place(view));
            case 11:
                return upTo(3) > 0 || same("refresh", view);
            case 12:
                return same("undo", view);
            default:
                return upTo(6) > 0 || same(upTo(2) == 0 ? "image" : "back") && knowColumns();
        }
    }

    private boolean ask() throws Exception {
        int view = viewNumber();
        int column = column();
        switch (upTo(20)) {
            case 0:
                return same("fits", view, key()) && same("why", view, key()) && same("rank", view, key());
            case 1:
                return same("stale", view) && same("pending", view);
            case 2:
                return same("moves", view) && same("unlike", view, viewNumber());
            case 3:
                return same("told", view, -1) && same("told", view, 0) && same("told", view, 1)
                        && same("told", view, upTo(5) - 2);
            case 4:
                return same("between", view, place(view), place(view));
            case 5:
                return same("sum", view, column) && same("kinds", view, column) && same("middle", view, column);
            case 6:
                return same("by", key(), column) && same("cell", key(), column) && same("kind", column);
            case 7: case 8:
                return same("group", view, column, upTo(8) - 1, upTo(6) - 1);
            case 9:
                return same("total", view, column, upTo(8) - 1, column());
            case 10:
                return same("twice", view);
            case 11:
                return same("barred", view);
            case 12:
                return same("find", view, column, value(column), upTo(8) - 1);
            case 13:
                return same("log", upTo(44) - 2, upTo(7) - 1);
            case 14:
                return same("count", upTo(7) - 1) && same("order", upTo(26) - 1);
            case 15:
                return same("row", view, upTo(26) - 1) && same("place", view, key());
            case 16:
                return same("about", view, upTo(7) - 1) && same("sorts", view, upTo(5) - 1);
            default:
                return whole();
        }
    }

    /** All rows, those of one list, the cells of one column: what an edit did elsewhere shows here. */
    private boolean whole() throws Exception {
        int view = upTo(4);
        int column = columns == 0 ? 0 : upTo(columns);
        boolean alike = same("order", model.count(1)) && same("row", view, model.about(view, 0));
        for (int i = 0; alike && i < model.count(1); i++) {
            int key = model.order(i);
            alike = same("order", i) && same("row", view, i) && same("cell", key, column) && same("by", key, column);
        }
        return alike;
    }

    // ---- numbers, mostly right ones ----

    private int viewNumber() {
        return upTo(40) == 0 ? upTo(8) - 2 : upTo(4);
    }

    private int column() {
        return columns == 0 || upTo(30) == 0 ? upTo(8) - 1 : upTo(columns);
    }

    private int place(int view) {
        int rows = view < 0 || view > 3 ? 0 : model.about(view, 0);
        return rows == 0 || upTo(15) == 0 ? upTo(27) - 2 : upTo(rows);
    }

    private int key() {
        int rows = model.count(1);
        return rows == 0 || upTo(15) == 0 ? upTo(30) - 2 : model.order(upTo(rows));
    }

    private int value(int column) {
        int chance = upTo(20);
        if (chance == 0) {
            return random.nextInt();
        }
        if (chance == 1) {
            return Model.NOTHING;
        }
        if (chance == 2) {
            return upTo(2100) - 1050;
        }
        if (chance == 3) {
            return upTo(540000);
        }
        boolean word = column >= 0 && column < columns && words[column];
        return word ? Due.word(one(WORDS)) : upTo(6) - 2;
    }

    // ---- texts, mostly right ones ----

    private String blanks() {
        return upTo(6) == 0 ? "  " : "";
    }

    private String cell(boolean word) {
        if (upTo(6) == 0) {
            return ".";
        }
        return word ? one(WORDS) : String.valueOf(upTo(40) == 0 ? upTo(2100) - 1050 : upTo(6) - 2);
    }

    private String sheetText() {
        StringBuilder text = new StringBuilder();
        boolean[] kinds = words;
        boolean first = true;
        if (columns == 0 || upTo(20) == 0) {
            kinds = new boolean[1 + upTo(upTo(10) == 0 ? 6 : 4)];
            text.append("columns");
            for (int c = 0; c < kinds.length; c++) {
                kinds[c] = upTo(2) == 0;
                text.append(' ').append(kinds[c] ? "word" : "number");
            }
            first = false;
        }
        int rows = upTo(20) == 0 ? 12 + upTo(5) : upTo(7);
        for (int r = 0; r < rows; r++) {
            text.append(first ? "" : blanks() + ";" + blanks()).append("row");
            first = false;
            for (boolean word : kinds) {
                text.append(' ').append(blanks()).append(cell(word));
            }
        }
        return noise(text.toString());
    }

    private String test(boolean word) {
        StringBuilder text = new StringBuilder();
        while (upTo(3) == 0) {
            text.append("not ");
        }
        if (upTo(5) == 0) {
            return text.append("blank").toString();
        }
        if (word) {
            return text.append(one(PATTERNS)).toString();
        }
        int low = upTo(6) - 3;
        text.append(low);
        if (upTo(2) == 0) {
            text.append(" to ").append(low + upTo(4) - (upTo(10) == 0 ? 2 : 0));
        }
        return text.toString();
    }

    private String viewText() {
        StringBuilder text = new StringBuilder();
        int parts = upTo(5);
        for (int i = 0; i < parts; i++) {
            int c = column();
            text.append(i == 0 ? "" : blanks() + ";").append(blanks());
            switch (upTo(6)) {
                case 0: case 1:
                    text.append("up ").append(c);
                    break;
                case 2:
                    text.append("down ").append(c);
                    break;
                case 3:
                    text.append("hide").append(blanks()).append(c);
                    break;
                default:
                    text.append(c).append(blanks()).append(':');
                    int tests = 1 + upTo(upTo(12) == 0 ? 8 : 3);
                    for (int t = 0; t < tests; t++) {
                        text.append(t == 0 ? "" : " or ").append(test(c >= 0 && c < columns && words[c]));
                    }
            }
        }
        return noise(text.toString());
    }

    private String pasteText(int view, int column) {
        StringBuilder text = new StringBuilder();
        int hidden = view >= 0 && view < 4 ? model.about(view, 2) : 0;
        int grids = 1 + upTo(upTo(10) == 0 ? 14 : 4);
        for (int g = 0; g < grids; g++) {
            text.append(g == 0 ? "" : ";").append(blanks());
            boolean some = false;
            for (int c = Math.max(0, column); c < columns; c++) {
                if ((hidden >> c & 1) == 0 && (!some || upTo(3) > 0)) {
                    text.append(some ? blanks() + "," : "").append(cell(words[c]));
                    some = true;
                } else if (some) {
                    break;
                }
            }
        }
        return noise(text.toString());
    }

    private String noise(String text) {
        if (upTo(4) > 0) {
            return text;
        }
        int from = upTo(text.length() + 1);
        int to = Math.min(text.length(), from + upTo(3));
        return text.substring(0, from) + (upTo(4) == 0 ? "" : one(NOISE)) + text.substring(to);
    }

    // ---- both at once ----

    private boolean feed(String text) throws Exception {
        trail.add("text [" + text + "]");
        String cut = text.length() > 400 ? text.substring(0, 400) : text;
        if (!same("end", 0)) {
            return false;
        }
        for (int i = 0; i < cut.length(); i += 20) {
            Object[] n = {0, 0, 0, 0, 0};
            for (int j = 0; j < 20; j++) {
                n[j / 4] = (int) n[j / 4] << 8 | (i + j < cut.length() ? cut.charAt(i + j) : 0);
            }
            if (!same("feed", n)) {
                return false;
            }
        }
        return same("end", cut.length());
    }

    private boolean same(String name, Object... args) throws Exception {
        if (calls >= MOST_CALLS) {
            return true;
        }
        calls++;
        String got = answer(x, name, args);
        String want = answer(model, name, args);
        trail.add(name + Arrays.toString(args) + " answered " + got + ", the model " + want);
        return got.equals(want);
    }

    private static String answer(Object of, String name, Object... args) throws Exception {
        Class<?>[] types = new Class<?>[args.length];
        Arrays.fill(types, int.class);
        Method method = of.getClass().getMethod(name, types);
        try {
            return String.valueOf(method.invoke(of, args));
        } catch (InvocationTargetException e) {
            return "throws." + e.getCause().getClass().getSimpleName();
        }
    }
}
