/** What the project's tests share: each call is held against the answer that is due. */
final class Due {
    private final String test;
    private String about = "";
    private int asked;
    private int wrong;

    Due(String test) {
        this.test = test;
    }

    /** What the calls that come now are about: it stands ahead of what is told of them. */
    void about(String what) {
        about = what.isEmpty() ? "" : what + ": ";
    }

    void is(String call, long got, long want) {
        asked++;
        if (got != want) {
            wrong++;
            if (wrong <= 40) {
                System.out.println(test + ": " + about + call + " answered " + got + ", due is " + want);
            }
        }
    }

    /** The call that was made last was refused, and for this reason. */
    void refused(String call, RowPruner x, long got, int why) {
        is(call, got, RowPruner.NONE);
        is(call + ", status()", x.status(), why);
    }

    /** The call that was made last answered with status 0. */
    void good(String call, RowPruner x, long got, long want) {
        is(call, got, want);
        is(call + ", status()", x.status(), 0);
    }

    int wrong() {
        return wrong;
    }

    void end() {
        System.out.println(test + ": " + asked + " answers held against what is due, " + wrong + " wrong");
        if (wrong > 0 || asked == 0) {
            System.exit(1);
        }
    }

    static void feed(RowPruner x, String text) {
        int[] four = new int[5];
        for (int from = 0; from < text.length(); from += 20) {
            for (int i = 0; i < 5; i++) {
                four[i] = 0;
                for (int k = 0; k < 4; k++) {
                    int at = from + 4 * i + k;
                    four[i] = four[i] << 8 | (at < text.length() ? text.charAt(at) & 255 : 0);
                }
            }
            x.feed(four[0], four[1], four[2], four[3], four[4]);
        }
    }

    /** Feeds a text and loads it. */
    static int load(RowPruner x, String text) {
        feed(x, text);
        return x.load(text.length());
    }

    /** A new object that has loaded a text. */
    static RowPruner loaded(String text) {
        RowPruner x = new RowPruner();
        if (load(x, text) == RowPruner.NONE) {
            System.out.println("a test's own text is at fault: " + text + " " + x.fault(0) + " at " + x.fault(1));
            System.exit(1);
        }
        return x;
    }
}
