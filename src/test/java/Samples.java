/** Objects that tests begin with; each is made with few of its 512 calls. */
final class Samples {
    static final int FAULT = 3;

    private Samples() {
    }

    /** No columns, no rows, some bytes on the tape. */
    static PrivateViews bare() {
        PrivateViews x = new PrivateViews();
        Due.feed(x, "  tape");
        return x;
    }

    /**
     * Rows 0 1 2 3 4 6 of three columns (number word number), key 5 gone, and of all something: in view 1 (0:5 or 9,
     * hides 1) row 0 is stale and row 1 pending; view 2 sorts and hides two; view 3 sees none; edits through 0, 1, 2;
     * an image, a fault at byte 3, six bytes on the tape.
     */
    static PrivateViews rich() {
        PrivateViews x = new PrivateViews();
        Due.sheet(x, "columns number word number;row 5 a 1;row 2 b .;row 5 c 3;row . d 4;row 9 e 5");
        Due.sheet(x, "row 7 f 2");
        Due.view(x, 1, "0:5 or 9;hide 1");
        Due.view(x, 2, "down 0;up 1;hide 0;hide 2");
        Due.view(x, 3, "0:99");
        x.set(1, 0, 0, 6);
        x.set(0, 1, 0, 5);
        x.fill(1, 0, 1, 2);
        x.image();
        x.drop(0, 5);
        x.add(0, 0);
        x.set(2, 0, 1, Due.word("z"));
        x.set(0, 0, 0, 8);
        Due.feed(x, "   x");
        Due.answerOf(() -> x.view(3));
        Due.feed(x, "  tape");
        return x;
    }

    /** Rows 0 to 23 of one column of numbers, which are the keys; view 1 sees 23 22 21 20, view 2 none. */
    static PrivateViews full() {
        PrivateViews x = new PrivateViews();
        Due.sheet(x, "columns number");
        Due.sheet(x, rows(0, 14));
        Due.sheet(x, rows(14, 24));
        Due.view(x, 1, "0:20 to 99;down 0");
        Due.view(x, 2, "0:99");
        return x;
    }

    static String rows(int from, int to) {
        StringBuilder text = new StringBuilder();
        for (int i = from; i < to; i++) {
            text.append(i == from ? "" : ";").append("row ").append(i);
        }
        return text.toString();
    }
}
