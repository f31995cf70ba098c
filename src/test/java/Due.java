import java.nio.charset.StandardCharsets;

/** Counts the answers that are not the ones that are due, and tells them. */
final class Due {
    interface Call {
        Object answer();
    }

    private final String name;
    private int asked;
    private int wrong;

    Due(String name) {
        this.name = name;
    }

    static String answerOf(Call call) {
        try {
            return String.valueOf(call.answer());
        } catch (RuntimeException e) {
            return "throws." + e.getClass().getSimpleName();
        }
    }

    void is(String what, Object want, Call call) {
        asked++;
        String got = answerOf(call);
        if (!got.equals(String.valueOf(want))) {
            wrong++;
            System.out.println(name + ": " + what + " answered " + got + ", due is " + want);
        }
    }

    void noPlace(String what, Call call) {
        is(what, "throws.IndexOutOfBoundsException", call);
    }

    void noNumber(String what, Call call) {
        is(what, "throws.IllegalArgumentException", call);
    }

    void cannot(String what, Call call) {
        is(what, "throws.IllegalStateException", call);
    }

    void noSuch(String what, Call call) {
        is(what, "throws.NoSuchElementException", call);
    }

    void unsupported(String what, Call call) {
        is(what, "throws.UnsupportedOperationException", call);
    }

    void end() {
        System.out.println(name + ": " + asked + " asked, " + wrong + " wrong");
        if (wrong != 0) {
            System.exit(1);
        }
    }

    /** Puts a text of at most 400 bytes on an empty tape. */
    static void feed(PrivateViews x, String text) {
        byte[] bytes = text.getBytes(StandardCharsets.ISO_8859_1);
        for (int i = 0; i < bytes.length; i += 20) {
            int[] n = new int[5];
            for (int j = 0; j < 20; j++) {
                int sign = i + j < bytes.length ? bytes[i + j] & 255 : 0;
                n[j / 4] = n[j / 4] << 8 | sign;
            }
            if (x.feed(n[0], n[1], n[2], n[3], n[4]) < 0) {
                throw new IllegalStateException("the tape is full");
            }
        }
        if (!x.end(bytes.length)) {
            throw new IllegalStateException("the tape is short");
        }
    }

    static int sheet(PrivateViews x, String text) {
        feed(x, text);
        return x.sheet();
    }

    static int view(PrivateViews x, int view, String text) {
        feed(x, text);
        return x.view(view);
    }

    static int paste(PrivateViews x, int view, int place, int column, String text) {
        feed(x, text);
        return x.paste(view, place, column);
    }

    /** The keys of a view's list, one behind another. */
    static String list(PrivateViews x, int view) {
        StringBuilder keys = new StringBuilder();
        for (int i = 0; x.row(view, i) != PrivateViews.NONE; i++) {
            keys.append(i == 0 ? "" : " ").append(x.row(view, i));
        }
        return keys.toString();
    }

    static String order(PrivateViews x) {
        StringBuilder keys = new StringBuilder();
        for (int i = 0; x.order(i) != PrivateViews.NONE; i++) {
            keys.append(i == 0 ? "" : " ").append(x.order(i));
        }
        return keys.toString();
    }

    static int word(String letters) {
        int value = 0;
        for (int i = 0; i < 4; i++) {
            value = value * 27 + (i < letters.length() ? letters.charAt(i) - 'a' + 1 : 0);
        }
        return value;
    }

    /** So many ago of the log, all five parts. */
    static String log(PrivateViews x, int ago) {
        return x.log(ago, 0) + " " + x.log(ago, 1) + " " + x.log(ago, 2) + " " + x.log(ago, 3) + " " + x.log(ago, 4);
    }
}
