/** Where the boundary cases begin: runs of calls, and texts, that more than one of them uses. */
final class States {
    /**
     * Something of everything, in page 0: slot 0 is TURNED to slot 5; the FROZEN row 1 in slot 1 is updated to
     * slot 6 by 5, which is OPEN, and 7 WAITS for it; slot 2 was used again, by row 5 of 4, which is GONE, and its
     * ENTRY is KILLED; row 3 in slot 3 is FROZEN and DYING; slot 4 is a STUB. 8 has FOUND two.
     */
    static final Cases.Run BUSY_UNMARKED = Cases.then(
        Cases.text("units 40;batch 2;age 1;row 1 10 9;row 1 11 9;row 2 12 4;row 3 13 5;row 2 14 3;begin;update 2 0 1 20 5;delete 2 2;"
            + "commit 2;vacuum;begin;delete 3 4;commit 3;prune 0;begin;begin;insert 4 3 50 6;abort 4;begin;begin;look 5 3;delete 6 3;commit 6;"),
        x -> x.update(5, 1, 1, 21, 4), x -> x.await(7, 1), RowPruner::begin, x -> x.look(8, 1));
    static final Cases.Run BUSY = Cases.then(BUSY_UNMARKED, RowPruner::mark);

    /** Thirty rows with KEY 1, each updated to KEY 2 by 2, which is OPEN: 60 ENTRIES, all 60 SLOTS are FULL. */
    static final Cases.Run FULL_INDEX = x -> {
        Cases.text("units 96;" + "row 1 1 1;".repeat(30) + "begin;begin;").on(x);
        for (int row = 0; row < 30; row++) x.update(2, row, 2, 2, 1);
    };

    /** As FULL_INDEX, with one update less: 59 ENTRIES, one SLOT that can be made. */
    static final Cases.Run NEARLY_FULL_INDEX = x -> {
        Cases.text("units 96;" + "row 1 1 1;".repeat(30) + "begin;begin;").on(x);
        for (int row = 0; row < 29; row++) x.update(2, row, 2, 2, 1);
    };

    /** Row 0 is ended by 2, row 1 by 3, both OPEN; 4 is free. */
    static final Cases.Run HELD = Cases.text("row 1 1 1;row 2 2 2;begin;begin;begin;delete 2 0;delete 3 1;");
    /** As HELD; 4 WAITS for 2. */
    static final Cases.Run WAITING = Cases.then(HELD, x -> x.await(4, 0));
    /** As HELD, but 3 is DONE and 2 is GONE. */
    static final Cases.Run ENDED = Cases.then(HELD, x -> x.commit(3), x -> x.abort(2));
    /** Rows 0 to 3, ended by 2 to 5, all OPEN; 6 has done nothing. */
    static final Cases.Run FOUR = Cases.text("row 1 1 1;row 2 2 2;row 3 3 3;row 4 4 4;begin;begin;begin;begin;begin;"
        + "delete 2 0;delete 3 1;delete 4 2;delete 5 3;");

    private States() { }

    /** No such transactions where 4 is the latest one. */
    static int[] noTxns() {
        return new int[] {Integer.MIN_VALUE, -1, 0, 5, 61, Integer.MAX_VALUE};
    }

    /** No such rows where there are two. */
    static int[] noRows() {
        return new int[] {Integer.MIN_VALUE, -1, 2, 40, Integer.MAX_VALUE};
    }

    /** A text whose last line, but for its ; sign, is a good one that begins with this word. */
    static String good(String word) {
        switch (word) {
            case "units": return "units 40";
            case "batch": return "batch 4";
            case "age": return "age 4";
            case "row": return "row 1 2 3";
            case "insert": return "begin;insert 2 1 2 3";
            case "update": return "row 1 1 1;begin;update 2 0 1 2 3";
            case "delete": return "row 1 1 1;begin;delete 2 0";
            case "commit": return "begin;commit 2";
            case "abort": return "begin;abort 2";
            case "prune": return "prune 5";
            case "look": return "begin;look 2 7";
            default: return word;
        }
    }

    /** 1 if a text is loaded, else 0. */
    static int loads(String text) {
        return Due.load(new RowPruner(), text) == RowPruner.NONE ? 0 : 1;
    }
}
