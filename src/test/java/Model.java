import java.util.ArrayList;
import java.util.Comparator;
import java.util.HashSet;
import java.util.LinkedHashMap;
import java.util.List;
import java.util.Map;
import java.util.NoSuchElementException;
import java.util.Objects;
import java.util.Set;
import java.util.function.Predicate;
import java.util.regex.Matcher;
import java.util.regex.Pattern;

/** The document once more, written as plainly as the Java library allows, to compare the class with. */
public final class Model {
    static final int NONE = -1;
    static final int NOTHING = -1000000;

    static final class Row {
        int key;
        Object[] cells;
        int[] by;
    }

    record Change(int view, Row row, int column, Object was, Object then) {
    }

    static final class View {
        Map<Integer, List<Predicate<Object>>> filters = new LinkedHashMap<>();
        List<Integer> sorts = new ArrayList<>();
        Set<Integer> hidden = new HashSet<>();
        List<Row> list = new ArrayList<>();
        List<List<Change>> edits = new ArrayList<>();
    }

    static final class All {
        List<Boolean> words = new ArrayList<>();
        List<Row> order = new ArrayList<>();
        View[] views = {new View(), new View(), new View(), new View()};
        int texts;
        int keys;
        List<Change> log = new ArrayList<>();
    }

    static final class Wrong extends Exception {
        private static final long serialVersionUID = 1;

        final int at;

        Wrong(int at) {
            this.at = at;
        }
    }

    private final List<Integer> tape = new ArrayList<>();
    private All all = new All();
    private All image;
    private int fault = NONE;
    private String text = "";
    private int at;

    public int feed(int a, int b, int c, int d, int e) {
        if (tape.size() > 380) {
            return NONE;
        }
        for (int n : new int[] {a, b, c, d, e}) {
            tape.add(n >>> 24);
            tape.add(n >>> 16 & 255);
            tape.add(n >>> 8 & 255);
            tape.add(n & 255);
        }
        return tape.size();
    }

    public boolean end(int n) {
        if (n < 0 || n > tape.size()) {
            return false;
        }
        while (tape.size() > n) {
            tape.remove(tape.size() - 1);
        }
        return true;
    }

    private void take() {
        StringBuilder signs = new StringBuilder();
        for (int sign : tape) {
            signs.append((char) sign);
        }
        tape.clear();
        text = signs.toString();
        at = 0;
    }

    // ---- reading ----

    private void blanks() {
        while (at < text.length() && text.charAt(at) == ' ') {
            at++;
        }
    }

    private String look(String regex) {
        blanks();
        Matcher m = Pattern.compile(regex).matcher(text).region(at, text.length());
        return m.lookingAt() ? m.group() : "";
    }

    private boolean next(String regex, String wanted) {
        if (!look(regex).equals(wanted) || wanted.isEmpty()) {
            return false;
        }
        at += wanted.length();
        return true;
    }

    private boolean word(String wanted) {
        return next("[a-z]+", wanted);
    }

    private boolean sign(String wanted) {
        return next("(?s).", wanted);
    }

    private boolean over() {
        blanks();
        return at == text.length();
    }

    private int number() throws Wrong {
        String digits = look("[0-9]+");
        if (digits.isEmpty() || digits.length() > 3) {
            throw new Wrong(at);
        }
        at += digits.length();
        return Integer.parseInt(digits);
    }

    private int signed() throws Wrong {
        String whole = look("-?[0-9]+");
        if (whole.isEmpty()) {
            throw new Wrong(look("-").isEmpty() ? at : at + 1);
        }
        if (whole.replace("-", "").length() > 3) {
            throw new Wrong(at);
        }
        at += whole.length();
        return Integer.parseInt(whole);
    }

    private Object value(boolean isWord) throws Wrong {
        if (sign(".")) {
            return null;
        }
        if (!isWord) {
            return signed();
        }
        String letters = look("[a-z]+");
        if (letters.isEmpty() || letters.length() > 4) {
            throw new Wrong(at);
        }
        at += letters.length();
        return letters;
    }

    private Row newRow() {
        Row row = new Row();
        row.key = all.keys++;
        row.cells = new Object[all.words.size()];
        row.by = new int[all.words.size()];
        java.util.Arrays.fill(row.by, NONE);
        return row;
    }

    private interface Reading {
        void read() throws Wrong;
    }

    private void reading(Reading r) {
        fault = NONE;
        All before = copy(all);
        try {
            r.read();
        } catch (Wrong w) {
            fault = w.at;
            all = before;
            throw new IllegalArgumentException();
        }
    }

    public int sheet() {
        take();
        All before = copy(all);
        reading(this::readLines);
        if (before.texts == 12) {
            all = before;
            throw new UnsupportedOperationException();
        }
        return ++all.texts;
    }

    private void readLines() throws Wrong {
        if (over()) {
            return;
        }
        int lines = 0;
        do {
            blanks();
            int start = at;
            if (++lines > 14) {
                throw new Wrong(start);
            }
            if (word("columns")) {
                if (!all.words.isEmpty()) {
                    throw new Wrong(start);
                }
                do {
                    boolean number = look("[a-z]+").equals("number");
                    if (all.words.size() == 5 || !number && !look("[a-z]+").equals("word")) {
                        throw new Wrong(at);
                    }
                    at += number ? 6 : 4;
                    all.words.add(!number);
                } while (!over() && !look("(?s).").equals(";"));
            } else if (word("row")) {
                if (all.words.isEmpty() || all.order.size() == 24) {
                    throw new Wrong(start);
                }
                Row row = newRow();
                for (int c = 0; c < all.words.size(); c++) {
                    row.cells[c] = value(all.words.get(c));
                }
                all.order.add(row);
                for (View v : all.views) {
                    if (fit(v, row)) {
                        v.list.add(row);
                    }
                }
            } else {
                throw new Wrong(at);
            }
        } while (more());
    }

    private boolean more() throws Wrong {
        if (over()) {
            return false;
        }
        if (!sign(";")) {
            throw new Wrong(at);
        }
        return true;
    }

    private int column() throws Wrong {
        blanks();
        int start = at;
        int n = number();
        if (n >= all.words.size()) {
            throw new Wrong(start);
        }
        return n;
    }

    public int view(int view) {
        take();
        View v = viewOf(view);
        View told = new View();
        reading(() -> {
            if (!over()) {
                do {
                    part(told);
                } while (more());
            }
        });
        v = viewOf(view);
        v.filters = told.filters;
        v.sorts = told.sorts;
        v.hidden = told.hidden;
        v.list = fresh(v);
        return v.list.size();
    }

    private void part(View told) throws Wrong {
        blanks();
        int start = at;
        if (!look("[0-9]").isEmpty()) {
            int c = column();
            if (told.filters.containsKey(c)) {
                throw new Wrong(start);
            }
            if (!sign(":")) {
                throw new Wrong(at);
            }
            List<Predicate<Object>> tests = new ArrayList<>();
            told.filters.put(c, tests);
            do {
                blanks();
                if (tests.size() == 6) {
                    throw new Wrong(at);
                }
                tests.add(test(all.words.get(c), 0));
            } while (word("or"));
        } else if (look("[a-z]+").equals("up") || look("[a-z]+").equals("down")) {
            int down = look("[a-z]+").equals("down") ? 1 : 0;
            if (told.sorts.size() == 3) {
                throw new Wrong(at);
            }
            at += down == 1 ? 4 : 2;
            blanks();
            int where = at;
            int c = column();
            if (told.sorts.contains(2 * c) || told.sorts.contains(2 * c + 1)) {
                throw new Wrong(where);
            }
            told.sorts.add(2 * c + down);
        } else if (word("hide")) {
            blanks();
            int where = at;
            if (!told.hidden.add(column())) {
                throw new Wrong(where);
            }
        } else {
            throw new Wrong(at);
        }
    }

    private Predicate<Object> test(boolean isWord, int nots) throws Wrong {
        if (look("[a-z]+").equals("not")) {
            if (nots == 4) {
                throw new Wrong(at);
            }
            at += 3;
            return test(isWord, nots + 1).negate();
        }
        if (word("blank")) {
            return Objects::isNull;
        }
        if (!isWord) {
            int low = signed();
            if (!word("to")) {
                return o -> o != null && (Integer) o == low;
            }
            blanks();
            int where = at;
            int high = signed();
            if (high < low) {
                throw new Wrong(where);
            }
            return o -> o != null && (Integer) o >= low && (Integer) o <= high;
        }
        if (List.of("or", "to", "up", "down", "hide").contains(look("[a-z]+"))) {
            throw new Wrong(at);
        }
        String signs = look("[a-z?]+\\*?|\\*");
        if (signs.isEmpty() || signs.replace("*", "").length() > 4) {
            throw new Wrong(at);
        }
        at += signs.length();
        Pattern p = Pattern.compile(signs.replace("?", "[a-z]").replace("*", "[a-z]*"));
        return o -> o != null && p.matcher((String) o).matches();
    }

    // ---- the sheet and its views ----

    private static boolean fit(View v, Row row) {
        return whyNot(v, row) == NONE;
    }

    private static int whyNot(View v, Row row) {
        for (int c = 0; c < row.cells.length; c++) {
            Object cell = row.cells[c];
            if (v.filters.containsKey(c) && v.filters.get(c).stream().noneMatch(t -> t.test(cell))) {
                return c;
            }
        }
        return NONE;
    }

    private static Comparator<Row> bySort(int sort) {
        return (r, s) -> {
            Object a = r.cells[sort / 2];
            Object b = s.cells[sort / 2];
            if (a == null || b == null) {
                return a == b ? 0 : a == null ? 1 : -1;
            }
            int up = a instanceof Integer ? Integer.compare((Integer) a, (Integer) b)
                    : ((String) a).compareTo((String) b);
            return sort % 2 == 0 ? up : -up;
        };
    }

    private List<Row> sorted(List<Row> rows, List<Integer> sorts) {
        List<Row> result = new ArrayList<>(rows);
        for (int i = sorts.size() - 1; i >= 0; i--) {
            result.sort(bySort(sorts.get(i)));
        }
        return result;
    }

    private List<Row> fresh(View v) {
        return sorted(all.order.stream().filter(r -> fit(v, r)).toList(), v.sorts);
    }

    private View viewOf(int view) {
        if (view < 0 || view > 3) {
            throw new IndexOutOfBoundsException();
        }
        return all.views[view];
    }

    private Row rowAt(View v, int place) {
        if (place < 0 || place >= v.list.size()) {
            throw new IndexOutOfBoundsException();
        }
        return v.list.get(place);
    }

    private Row rowOf(int key) {
        for (Row r : all.order) {
            if (r.key == key) {
                return r;
            }
        }
        throw new IndexOutOfBoundsException();
    }

    private void col(int column) {
        if (column < 0 || column >= all.words.size()) {
            throw new IndexOutOfBoundsException();
        }
    }

    private static void shown(View v, int column) {
        if (v.hidden.contains(column)) {
            throw new IllegalStateException();
        }
    }

    private static int told(Object o) {
        if (o == null) {
            return NOTHING;
        }
        if (o instanceof Integer) {
            return (Integer) o;
        }
        return Due.word((String) o);
    }

    /** The cell that a number tells; an exception if it tells none. */
    private Object meant(int column, int value, boolean blankToo) {
        if (blankToo && value == NOTHING) {
            return null;
        }
        if (!all.words.get(column)) {
            if (Math.abs((long) value) > 999) {
                throw new IllegalArgumentException();
            }
            return value;
        }
        StringBuilder letters = new StringBuilder();
        for (int rest = value, i = 0; i < 4 && value > 0; i++, rest /= 27) {
            letters.insert(0, (char) ('`' + rest % 27));
        }
        String word = letters.toString().replaceAll("`+$", "");
        if (value <= 0 || value >= 531441 || word.contains("`")) {
            throw new IllegalArgumentException();
        }
        return word;
    }

    public int fault() {
        return fault;
    }

    public int kind(int column) {
        col(column);
        return all.words.get(column) ? 1 : 0;
    }

    public int cell(int key, int column) {
        Row r = rowOf(key);
        col(column);
        return told(r.cells[column]);
    }

    public int order(int place) {
        return place < 0 || place >= all.order.size() ? NONE : all.order.get(place).key;
    }

    public int row(int view, int place) {
        List<Row> list = viewOf(view).list;
        return place < 0 || place >= list.size() ? NONE : list.get(place).key;
    }

    public int place(int view, int key) {
        return viewOf(view).list.indexOf(rowOf(key));
    }

    public int about(int view, int what) {
        View v = viewOf(view);
        return switch (what) {
            case 0 -> v.list.size();
            case 1 -> v.sorts.size();
            case 2 -> v.hidden.stream().mapToInt(c -> 1 << c).sum();
            case 3 -> v.filters.keySet().stream().mapToInt(c -> 1 << c).sum();
            case 4 -> v.edits.size();
            default -> throw new NoSuchElementException();
        };
    }

    public int sorts(int view, int k) {
        List<Integer> s = viewOf(view).sorts;
        return k < 0 || k >= s.size() ? NONE : s.get(k);
    }

    // ---- edits ----

    private void change(List<Change> edit, int view, Row row, int column, Object then) {
        if (!Objects.equals(row.cells[column], then)) {
            Change c = new Change(view, row, column, row.cells[column], then);
            edit.add(c);
            enter(c);
            row.cells[column] = then;
            row.by[column] = view;
        }
    }

    private void enter(Change c) {
        all.log.add(0, c);
        if (all.log.size() > 40) {
            all.log.remove(40);
        }
    }

    private int finish(int view, List<Change> edit) {
        List<List<Change>> edits = all.views[view].edits;
        if (!edit.isEmpty()) {
            edits.add(edit);
            if (edits.size() > 8) {
                edits.remove(0);
            }
        }
        return edit.size();
    }

    public int set(int view, int place, int column, int value) {
        Row r = rowAt(viewOf(view), place);
        col(column);
        shown(viewOf(view), column);
        List<Change> edit = new ArrayList<>();
        change(edit, view, r, column, meant(column, value, false));
        finish(view, edit);
        return r.key;
    }

    public int clear(int view, int place, int column) {
        Row r = rowAt(viewOf(view), place);
        col(column);
        shown(viewOf(view), column);
        List<Change> edit = new ArrayList<>();
        change(edit, view, r, column, null);
        finish(view, edit);
        return r.key;
    }

    public int fill(int view, int from, int to, int column) {
        View v = viewOf(view);
        Row first = rowAt(v, from);
        rowAt(v, to);
        col(column);
        if (to < from) {
            throw new IllegalArgumentException();
        }
        shown(v, column);
        List<Change> edit = new ArrayList<>();
        v.list.subList(from, to + 1).forEach(r -> change(edit, view, r, column, first.cells[column]));
        return finish(view, edit);
    }

    public int replace(int view, int column, int value, int by) {
        View v = viewOf(view);
        col(column);
        shown(v, column);
        Object old = meant(column, value, true);
        Object then = meant(column, by, true);
        List<Change> edit = new ArrayList<>();
        v.list.stream().filter(r -> Objects.equals(r.cells[column], old)).toList()
                .forEach(r -> change(edit, view, r, column, then));
        return finish(view, edit);
    }

    public int swap(int view, int place, int other, int column) {
        View v = viewOf(view);
        Row r = rowAt(v, place);
        Row s = rowAt(v, other);
        col(column);
        if (r == s) {
            throw new IllegalArgumentException();
        }
        shown(v, column);
        Object a = r.cells[column];
        List<Change> edit = new ArrayList<>();
        change(edit, view, r, column, s.cells[column]);
        change(edit, view, s, column, a);
        return finish(view, edit);
    }

    public int paste(int view, int place, int column) {
        take();
        View v = viewOf(view);
        rowAt(v, place);
        col(column);
        shown(v, column);
        List<Integer> columns = new ArrayList<>();
        for (int c = column; c < all.words.size(); c++) {
            if (!v.hidden.contains(c)) {
                columns.add(c);
            }
        }
        List<List<Object>> grids = new ArrayList<>();
        reading(() -> {
            do {
                blanks();
                if (grids.size() == 12) {
                    throw new Wrong(at);
                }
                List<Object> grid = new ArrayList<>();
                grids.add(grid);
                do {
                    blanks();
                    if (grid.size() == columns.size()) {
                        throw new Wrong(at);
                    }
                    grid.add(value(all.words.get(columns.get(grid.size()))));
                } while (sign(","));
            } while (more());
        });
        if (all.order.size() + Math.max(0, place + grids.size() - v.list.size()) > 24) {
            throw new UnsupportedOperationException();
        }
        List<Change> edit = new ArrayList<>();
        List<Row> made = new ArrayList<>();
        for (int g = 0; g < grids.size(); g++) {
            if (place + g == v.list.size()) {
                Row row = newRow();
                made.add(row);
                all.order.add(row);
                v.list.add(row);
            }
            for (int i = 0; i < grids.get(g).size(); i++) {
                change(edit, view, v.list.get(place + g), columns.get(i), grids.get(g).get(i));
            }
        }
        made.forEach(r -> join(r, v));
        return finish(view, edit);
    }

    private void join(Row row, View but) {
        for (View v : all.views) {
            if (v != but && fit(v, row)) {
                v.list.add(row);
            }
        }
    }

    public int add(int view, int place) {
        View v = viewOf(view);
        Row ahead = place == NONE ? null : rowAt(v, place);
        if (all.order.size() == 24 || all.words.isEmpty()) {
            throw new UnsupportedOperationException();
        }
        Row row = newRow();
        v.list.add(place + 1, row);
        all.order.add(ahead == null ? 0 : all.order.indexOf(ahead) + 1, row);
        join(row, v);
        return row.key;
    }

    public int drop(int view, int place) {
        Row row = rowAt(viewOf(view), place);
        all.order.remove(row);
        for (View v : all.views) {
            v.list.remove(row);
        }
        return row.key;
    }

    public int drag(int view, int from, int to) {
        View v = viewOf(view);
        Row row = rowAt(v, from);
        rowAt(v, to);
        if (from == to) {
            throw new IllegalArgumentException();
        }
        v.list.remove(row);
        v.list.add(to, row);
        all.order.remove(row);
        int target = to == 0 ? all.order.indexOf(v.list.get(1)) : all.order.indexOf(v.list.get(to - 1)) + 1;
        all.order.add(target, row);
        return row.key;
    }

    public int refresh(int view) {
        View v = viewOf(view);
        Set<Row> old = new HashSet<>(v.list);
        v.list = fresh(v);
        Set<Row> now = new HashSet<>(v.list);
        Set<Row> both = new HashSet<>(old);
        both.retainAll(now);
        old.addAll(now);
        return old.size() - both.size();
    }

    public int undo(int view) {
        View v = viewOf(view);
        if (v.edits.isEmpty() || barred(view) != NONE) {
            throw new IllegalStateException();
        }
        List<Change> edit = v.edits.remove(v.edits.size() - 1);
        for (Change c : edit) {
            c.row.cells[c.column] = c.was;
            c.row.by[c.column] = view;
            enter(new Change(view, c.row, c.column, c.then, c.was));
        }
        return edit.size();
    }

    // ---- questions ----

    public boolean fits(int view, int key) {
        return fit(viewOf(view), rowOf(key));
    }

    public int why(int view, int key) {
        return whyNot(viewOf(view), rowOf(key));
    }

    public int stale(int view) {
        View v = viewOf(view);
        int bits = 0;
        for (Row r : v.list) {
            bits += fit(v, r) ? 0 : 1 << v.list.indexOf(r);
        }
        return bits;
    }

    public int pending(int view) {
        View v = viewOf(view);
        int bits = 0;
        for (Row r : all.order) {
            bits += fit(v, r) && !v.list.contains(r) ? 1 << all.order.indexOf(r) : 0;
        }
        return bits;
    }

    public int rank(int view, int key) {
        return fresh(viewOf(view)).indexOf(rowOf(key));
    }

    /** What is left of both when the longest run that they have in common stays. */
    public int moves(int view) {
        View v = viewOf(view);
        List<Row> a = new ArrayList<>(v.list);
        List<Row> b = fresh(v);
        a.retainAll(b);
        b.retainAll(a);
        int[][] common = new int[a.size() + 1][b.size() + 1];
        for (int i = 1; i <= a.size(); i++) {
            for (int j = 1; j <= b.size(); j++) {
                common[i][j] = a.get(i - 1) == b.get(j - 1) ? common[i - 1][j - 1] + 1
                        : Math.max(common[i - 1][j], common[i][j - 1]);
            }
        }
        return a.size() - common[a.size()][b.size()];
    }

    public int unlike(int view, int other) {
        List<Row> a = viewOf(view).list;
        List<Row> b = viewOf(other).list;
        if (view == other) {
            throw new IllegalArgumentException();
        }
        int pairs = 0;
        for (Row r : a) {
            for (Row s : a) {
                boolean both = b.contains(r) && b.contains(s);
                pairs += both && a.indexOf(r) < a.indexOf(s) && b.indexOf(r) > b.indexOf(s) ? 1 : 0;
            }
        }
        return pairs;
    }

    public int told(int view, int k) {
        List<Row> list = viewOf(view).list;
        List<List<Integer>> ways = new ArrayList<>();
        ways.add(List.of());
        int n = 2 * all.words.size();
        for (int i = 0; i < n; i++) {
            ways.add(List.of(i));
        }
        for (int i = 0; i < n; i++) {
            for (int j = 0; j < n; j++) {
                if (i / 2 != j / 2) {
                    ways.add(List.of(i, j));
                }
            }
        }
        List<Row> rows = all.order.stream().filter(list::contains).toList();
        for (List<Integer> way : ways) {
            if (sorted(rows, way).equals(list)) {
                return k == NONE ? way.size() : k < 0 || k >= way.size() ? NONE : way.get(k);
            }
        }
        return NONE;
    }

    public int between(int view, int from, int to) {
        View v = viewOf(view);
        int a = all.order.indexOf(rowAt(v, from));
        int b = all.order.indexOf(rowAt(v, to));
        if (a == b) {
            throw new IllegalArgumentException();
        }
        List<Row> rows = new ArrayList<>(all.order.subList(Math.min(a, b), Math.max(a, b)));
        rows.removeAll(v.list);
        return rows.size();
    }

    public int sum(int view, int column) {
        View v = viewOf(view);
        col(column);
        if (all.words.get(column)) {
            throw new IllegalStateException();
        }
        return v.list.stream().filter(r -> r.cells[column] != null).mapToInt(r -> (Integer) r.cells[column]).sum();
    }

    private Map<Object, List<Integer>> grouped(View v, int column) {
        Map<Object, List<Integer>> groups = new LinkedHashMap<>();
        for (int i = 0; i < v.list.size(); i++) {
            groups.computeIfAbsent(v.list.get(i).cells[column], o -> new ArrayList<>()).add(i);
        }
        return groups;
    }

    public int kinds(int view, int column) {
        View v = viewOf(view);
        col(column);
        return grouped(v, column).size();
    }

    public int by(int key, int column) {
        Row r = rowOf(key);
        col(column);
        return r.by[column];
    }

    private List<Integer> groupOf(View v, int column, int k) {
        List<List<Integer>> groups = new ArrayList<>(grouped(v, column).values());
        if (k < 0 || k >= groups.size()) {
            throw new IllegalArgumentException();
        }
        return groups.get(k);
    }

    public int group(int view, int column, int k, int what) {
        View v = viewOf(view);
        col(column);
        if (what < 0 || what > 3) {
            throw new NoSuchElementException();
        }
        List<Integer> places = groupOf(v, column, k);
        return switch (what) {
            case 0 -> told(v.list.get(places.get(0)).cells[column]);
            case 1 -> places.size();
            case 2 -> places.get(0);
            default -> places.get(places.size() - 1);
        };
    }

    public int total(int view, int column, int k, int other) {
        View v = viewOf(view);
        col(column);
        col(other);
        if (all.words.get(other)) {
            throw new IllegalStateException();
        }
        int sum = 0;
        for (int place : groupOf(v, column, k)) {
            Object cell = v.list.get(place).cells[other];
            sum += cell == null ? 0 : (Integer) cell;
        }
        return sum;
    }

    public int middle(int view, int column) {
        View v = viewOf(view);
        col(column);
        List<Row> rows = v.list.stream().filter(r -> r.cells[column] != null).sorted(bySort(2 * column)).toList();
        return rows.isEmpty() ? NOTHING : told(rows.get((rows.size() - 1) / 2).cells[column]);
    }

    public int twice(int view) {
        View v = viewOf(view);
        Set<List<Object>> seen = new HashSet<>();
        int bits = 0;
        for (int i = 0; i < v.list.size(); i++) {
            List<Object> cells = new ArrayList<>();
            for (int c = 0; c < all.words.size(); c++) {
                cells.add(v.hidden.contains(c) ? "hidden" : v.list.get(i).cells[c]);
            }
            bits += seen.add(cells) ? 0 : 1 << i;
        }
        return bits;
    }

    public int barred(int view) {
        View v = viewOf(view);
        if (!v.edits.isEmpty()) {
            for (Change c : v.edits.get(v.edits.size() - 1)) {
                if (!all.order.contains(c.row) || !Objects.equals(c.row.cells[c.column], c.then)) {
                    return c.row.key;
                }
            }
        }
        return NONE;
    }

    public int find(int view, int column, int value, int from) {
        View v = viewOf(view);
        col(column);
        Object wanted = meant(column, value, true);
        if (from < 0) {
            throw new IllegalArgumentException();
        }
        for (int i = from; i < v.list.size(); i++) {
            if (Objects.equals(v.list.get(i).cells[column], wanted)) {
                return i;
            }
        }
        return NONE;
    }

    public int log(int ago, int what) {
        if (what < 0 || what > 4) {
            throw new NoSuchElementException();
        }
        if (ago < 0 || ago >= all.log.size()) {
            return NONE;
        }
        Change c = all.log.get(ago);
        return new int[] {c.view, c.row.key, c.column, told(c.was), told(c.then)}[what];
    }

    // ---- the image ----

    private static All copy(All from) {
        Map<Row, Row> rows = new java.util.IdentityHashMap<>();
        All to = new All();
        to.words.addAll(from.words);
        to.texts = from.texts;
        to.keys = from.keys;
        from.order.forEach(r -> to.order.add(copy(r, rows)));
        from.log.forEach(c -> to.log.add(copy(c, rows)));
        for (int i = 0; i < 4; i++) {
            View v = from.views[i];
            View w = to.views[i];
            w.filters.putAll(v.filters);
            w.sorts.addAll(v.sorts);
            w.hidden.addAll(v.hidden);
            v.list.forEach(r -> w.list.add(copy(r, rows)));
            for (List<Change> edit : v.edits) {
                w.edits.add(new ArrayList<>(edit.stream().map(c -> copy(c, rows)).toList()));
            }
        }
        return to;
    }

    private static Change copy(Change c, Map<Row, Row> rows) {
        return new Change(c.view, copy(c.row, rows), c.column, c.was, c.then);
    }

    private static Row copy(Row from, Map<Row, Row> rows) {
        return rows.computeIfAbsent(from, r -> {
            Row to = new Row();
            to.key = r.key;
            to.cells = r.cells.clone();
            to.by = r.by.clone();
            return to;
        });
    }

    public void image() {
        image = copy(all);
    }

    public boolean back() {
        if (image == null) {
            return false;
        }
        all = copy(image);
        return true;
    }

    public int count(int what) {
        return switch (what) {
            case 0 -> all.words.size();
            case 1 -> all.order.size();
            case 2 -> all.texts;
            case 3 -> all.keys;
            case 4 -> all.log.size();
            default -> NONE;
        };
    }
}
