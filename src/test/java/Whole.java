/** What an object tells of itself, in parts, so that each part stays within the 512 calls of one object. */
final class Whole {
    interface Part {
        String tell(PrivateViews x);
    }

    static final String[] NAMES = {"the sheet", "the views", "what fits", "the log", "the edits", "the image",
        "the tape"};

    private static final Part[] PARTS = {Whole::sheet, Whole::views, Whole::fitting, Whole::log, Whole::edits,
        Whole::image, Whole::tape};

    private Whole() {
    }

    static String tell(int part, PrivateViews x) {
        return PARTS[part].tell(x);
    }

    private static String sheet(PrivateViews x) {
        StringBuilder told = new StringBuilder();
        for (int what = 0; what < 5; what++) {
            told.append(x.count(what)).append(' ');
        }
        int columns = x.count(0);
        for (int column = 0; column < columns; column++) {
            told.append(x.kind(column)).append(' ');
        }
        int rows = x.count(1);
        for (int place = 0; place < rows; place++) {
            int key = x.order(place);
            told.append('|').append(key);
            for (int column = 0; column < columns; column++) {
                told.append(' ').append(x.cell(key, column)).append('/').append(x.by(key, column));
            }
        }
        return told.toString();
    }

    private static String views(PrivateViews x) {
        StringBuilder told = new StringBuilder();
        for (int view = 0; view < 4; view++) {
            told.append('|').append(Due.list(x, view)).append('|');
            for (int what = 0; what < 5; what++) {
                told.append(x.about(view, what)).append(' ');
            }
            for (int k = 0; k < 3; k++) {
                told.append(x.sorts(view, k)).append(' ');
            }
            told.append(x.barred(view));
        }
        return told.toString();
    }

    private static String fitting(PrivateViews x) {
        StringBuilder told = new StringBuilder();
        int rows = x.count(1);
        for (int view = 0; view < 4; view++) {
            told.append('|').append(x.stale(view)).append(' ').append(x.pending(view));
            for (int place = 0; place < rows; place++) {
                int key = x.order(place);
                told.append(' ').append(x.why(view, key)).append('/').append(x.rank(view, key));
            }
        }
        return told.toString();
    }

    private static String log(PrivateViews x) {
        StringBuilder told = new StringBuilder();
        int logged = x.count(4);
        for (int ago = 0; ago < logged; ago++) {
            told.append('|').append(Due.log(x, ago));
        }
        return told.toString();
    }

    /** Takes back what can be, through each view, and looks at what each time was changed last. */
    private static String edits(PrivateViews x) {
        StringBuilder told = new StringBuilder();
        for (int view = 0; view < 4; view++) {
            int edits = x.about(view, 4);
            for (int i = 0; i < edits; i++) {
                int n = view;
                told.append('|').append(Due.answerOf(() -> x.undo(n))).append(' ').append(Due.log(x, 0));
            }
        }
        return told.append('|').append(sheet(x)).toString();
    }

    private static String image(PrivateViews x) {
        return x.back() ? sheet(x) + views(x) : "none";
    }

    /** How long the tape is, and what is on it, as far as a text of the sheet can tell. */
    private static String tape(PrivateViews x) {
        int length = 400;
        while (length >= 0 && !x.end(length)) {
            length--;
        }
        return length + " " + Due.answerOf(x::sheet) + " " + x.fault();
    }
}
