/** Promises 6 to 17: what there is. */
final class TellTest {
    private static final Due due = new Due("TellTest");
    private static final int NONE = RowPruner.NONE;
    /** Row 0 has an older version in slot 0 and a light one in slot 3; transaction 3 noted 2. */
    private static final String DYING = "units 40;row 1 10 10;row 1 11 10;row 2 12 10;begin;update 2 0 1 99 5;begin;commit 2;";

    public static void main(String[] args) {
        promise6();
        promise7();
        promise8();
        promise9();
        promise10();
        promise10Ended();
        promise11();
        promise12();
        promise13();
        promise14();
        promise15And16();
        promise17();
        due.end();
    }

    private static void promise6() {
        RowPruner x = Due.loaded(DYING);
        int[] many = {40, 3, 5, 3, 4, 2, 3, 4, 0, 1, 0, 1, 0, 0, 0, 1, 0};
        for (int i = 0; i < many.length; i++) due.good("many(" + i + ") with a DYING one", x, x.many(i), many[i]);
        x.commit(3);
        int[] dead = {40, 3, 5, 3, 4, 4, 3, 4, 1, 0, 0, 1, 0, 0, 0, 0, 0};
        for (int i = 0; i < dead.length; i++) due.good("many(" + i + ") with a DEAD one", x, x.many(i), dead[i]);
        x.prune(0);
        due.is("TURNED", x.many(13), 1);
        due.is("VERSIONS", x.many(7), 3);
        x.begin();
        x.insert(4, 9, 9, 3);
        x.abort(4);
        due.is("DEAD by its MAKER", x.many(8), 1);
        due.is("DYING", x.many(9), 0);
        x.prune(0);
        due.is("STUBS", x.many(12), 1);
        x.set(1, 0);
        x.vacuum();
        due.is("STUBS", x.many(12), 0);
        due.is("FROZEN", x.many(10), 3);
        x.mark();
        due.is("MARKS", x.many(14), 1);
        due.refused("many(-1)", x, x.many(-1), 1);
        due.refused("many(17)", x, x.many(17), 1);
        x.begin();
        x.begin();
        x.delete(5, 1);
        x.await(6, 1);
        due.is("OPEN", x.many(15), 2);
        due.is("WAIT", x.many(16), 1);
    }

    private static void promise7() {
        RowPruner x = Due.loaded(DYING + "commit 3;");
        x.prune(0);
        x.prune(0);
        due.good("PRUNINGS that made one go", x, x.counts(0), 1);
        due.good("VERSIONS that went", x, x.counts(1), 1);
        x.begin();
        x.insert(4, 3, 3, 3);
        due.good("no SLOT used again", x, x.counts(2), 0);
        x.abort(4);
        x.begin();
        due.good("look", x, x.look(5, 3), 0);
        due.good("KILLED", x, x.counts(6), 1);
        due.good("READS", x, x.counts(7), 1);
        x.look(5, 3);
        due.good("READS of a KILLED one", x, x.counts(7), 1);
        x.look(5, 1);
        due.good("READS", x, x.counts(7), 3);
        x.delete(5, 2);
        x.commit(5);
        x.set(0, 1);
        x.set(1, 4);
        due.good("vacuum", x, x.vacuum(), 2);
        due.good("PRUNINGS", x, x.counts(0), 2);
        due.good("VERSIONS that went", x, x.counts(1), 3);
        due.good("PASSES", x, x.counts(3), 2);
        due.good("ENTRIES that went", x, x.counts(4), 2);
        due.good("FROZEN: HORIZON 6, more than 4 less", x, x.counts(5), 1);
        x.vacuum();
        due.good("FROZEN once", x, x.counts(5), 1);
        x.begin();
        x.insert(6, 3, 3, 3);
        due.good("the SLOT behind was no more, slot 2 is used again", x, x.counts(2), 1);
        due.refused("counts(-1)", x, x.counts(-1), 1);
        due.refused("counts(8)", x, x.counts(8), 1);
        x.load(0);
        for (int i = 0; i < 8; i++) due.good("counts since load()", x, x.counts(i), 0);
    }

    private static void promise8() {
        RowPruner x = Due.loaded(DYING + "commit 3;");
        int[] page = {4, 5, 10, 0, 0};
        for (int i = 0; i < 5; i++) due.good("page(0, " + i + ")", x, x.page(0, i), page[i]);
        x.begin();
        x.update(4, 0, 1, 1, 1);
        x.abort(4);
        due.good("UNITS of DEAD ones", x, x.page(0, 2), 11);
        x.prune(0);
        due.good("SLOTS", x, x.page(0, 0), 5);
        due.good("FREE", x, x.page(0, 1), 15);
        due.good("DEAD", x, x.page(0, 2), 0);
        due.good("UNUSED", x, x.page(0, 3), 1);
        due.good("not CLEAR", x, x.page(0, 4), 0);
        x.vacuum();
        due.good("not CLEAR: a SLOT is TURNED", x, x.page(0, 4), 0);
        due.good("no SLOTS behind", x, x.page(0, 0), 4);
        due.good("CLEAR without SLOTS", x, x.page(5, 4), 1);
        x.repack();
        x.vacuum();
        due.good("CLEAR", x, x.page(0, 4), 1);
        due.refused("page(-1, 0)", x, x.page(-1, 0), 2);
        due.refused("page(6, 0)", x, x.page(6, 0), 2);
        due.refused("page(0, -1)", x, x.page(0, -1), 1);
        due.refused("page(0, 5)", x, x.page(0, 5), 1);
        due.refused("page(6, 5)", x, x.page(6, 5), 1);
    }

    private static void promise9() {
        RowPruner x = Due.loaded(DYING);
        int[] full = {1, NONE, 1, 2};
        for (int i = 0; i < 4; i++) due.good("slot(0, 0, " + i + ")", x, x.slot(0, 0, i), full[i]);
        int[] light = {1, NONE, 0, 1};
        for (int i = 0; i < 4; i++) due.good("slot(0, 3, " + i + ")", x, x.slot(0, 3, i), light[i]);
        x.commit(3);
        x.prune(0);
        int[] turned = {2, 3, 1, 1};
        for (int i = 0; i < 4; i++) due.good("TURNED slot(0, 0, " + i + ")", x, x.slot(0, 0, i), turned[i]);
        x.begin();
        x.delete(4, 0);
        x.update(4, 1, 1, 1, 1);
        x.abort(4);
        due.good("a CHAIN is cut where the ENDER is GONE", x, x.slot(0, 1, 3), 1);
        x.begin();
        x.delete(5, 0);
        x.commit(5);
        x.prune(0);
        int[] stub = {3, NONE, 1, 0};
        for (int i = 0; i < 4; i++) due.good("STUB slot(0, 0, " + i + ")", x, x.slot(0, 0, i), stub[i]);
        int[] unused = {0, NONE, 0, 0};
        for (int i = 0; i < 4; i++) due.good("UNUSED slot(0, 3, " + i + ")", x, x.slot(0, 3, i), unused[i]);
        due.refused("slot(0, 5, 0)", x, x.slot(0, 5, 0), 2);
        due.refused("slot(0, -1, 0)", x, x.slot(0, -1, 0), 2);
        due.refused("slot(-1, 0, 0)", x, x.slot(-1, 0, 0), 2);
        due.refused("slot(6, 0, 0)", x, x.slot(6, 0, 0), 2);
        due.refused("slot(0, 0, -1)", x, x.slot(0, 0, -1), 1);
        due.refused("slot(6, 0, 4)", x, x.slot(6, 0, 4), 1);
    }

    private static void promise10() {
        RowPruner x = Due.loaded(DYING);
        int[] old = {0, 1, 10, 10, 1, 2, 0, 3, 0, 0, 0, 1};
        for (int i = 0; i < 12; i++) due.good("version(0, 0, " + i + ")", x, x.version(0, 0, i), old[i]);
        int[] light = {0, 1, 99, 5, 2, NONE, NONE, NONE, 1, 0, 0, 0};
        for (int i = 0; i < 12; i++) due.good("version(0, 3, " + i + ")", x, x.version(0, 3, i), light[i]);
        x.commit(3);
        due.good("DEAD", x, x.version(0, 0, 10), 1);
        due.good("not DYING", x, x.version(0, 0, 11), 0);
        x.set(1, 1);
        x.vacuum();
        due.good("FROZEN", x, x.version(0, 3, 9), 1);
        due.good("its MAKER is told", x, x.version(0, 3, 4), 2);
        due.refused("of a TURNED slot", x, x.version(0, 0, 0), 5);
        due.refused("version(0, 4, 0)", x, x.version(0, 4, 0), 2);
        due.refused("version(0, -1, 0)", x, x.version(0, -1, 0), 2);
        due.refused("version(6, 0, 0)", x, x.version(6, 0, 0), 2);
        due.refused("version(-1, 0, 0)", x, x.version(-1, 0, 0), 2);
        due.refused("version(6, 0, 12)", x, x.version(6, 0, 12), 1);
        due.refused("version(0, 0, -1)", x, x.version(0, 0, -1), 1);
    }

    /** An ENDER that is GONE is still told, with its NEXT, till another one ends the version. */
    private static void promise10Ended() {
        RowPruner x = Due.loaded("units 40;row 1 10 20;row 2 11 20;begin;update 2 0 1 12 20;abort 2;");
        due.good("ENDER", x, x.version(0, 0, 5), 2);
        due.good("PAGE of NEXT", x, x.version(0, 0, 6), 1);
        due.good("SLOT of NEXT", x, x.version(0, 0, 7), 0);
        due.good("not DEAD", x, x.version(0, 0, 10), 0);
        due.good("not LIGHT in another page", x, x.version(1, 0, 8), 0);
        due.good("DEAD: its MAKER is GONE", x, x.version(1, 0, 10), 1);
        x.vacuum();
        due.good("NEXT is told though its slot is no more", x, x.version(0, 0, 7), 0);
        due.refused("that slot", x, x.version(1, 0, 0), 2);
        x.begin();
        due.good("another ENDER", x, x.delete(3, 0), 1);
        due.good("ENDER", x, x.version(0, 0, 5), 3);
        due.good("no NEXT", x, x.version(0, 0, 6), NONE);
        due.good("no NEXT", x, x.version(0, 0, 7), NONE);
    }

    private static void promise11() {
        RowPruner x = Due.loaded("units 40;row 5 1 20;row 3 1 20;row 5 1 20;row 3 1 1;begin;insert 2 5 1 2;abort 2;begin;look 3 5;");
        // Row 3 goes to page 1 (page 0 has no unit left), row 4 too.
        int[][] due4 = {{3, 0, 1, 0}, {3, 1, 1, 0}, {5, 0, 0, 0}, {5, 1, 0, 0}, {5, 1, 2, 1}};
        for (int i = 0; i < 5; i++) {
            for (int w = 0; w < 4; w++) due.good("entry(" + i + ", " + w + ")", x, x.entry(i, w), due4[i][w]);
        }
        due.refused("entry(5, 0)", x, x.entry(5, 0), 5);
        due.refused("entry(-1, 0)", x, x.entry(-1, 0), 1);
        due.refused("entry(0, -1)", x, x.entry(0, -1), 1);
        due.refused("entry(5, 4)", x, x.entry(5, 4), 1);
    }

    private static void promise12() {
        RowPruner x = Due.loaded("row 1 1 1;begin;begin;begin;commit 3;begin;delete 4 0;abort 2;");
        // 3 noted 2; 4 noted 2, 3; 5 noted 2, 4.
        due.good("GONE", x, x.txn(2, 0), 2);
        due.good("DONE", x, x.txn(3, 0), 1);
        due.good("OPEN", x, x.txn(4, 0), 0);
        due.good("LOW of 4 though 2 is GONE", x, x.txn(4, 1), 2);
        due.good("LOW of 5", x, x.txn(5, 1), 2);
        due.refused("LOW of 3", x, x.txn(3, 1), 5);
        due.refused("LOW of 2", x, x.txn(2, 1), 5);
        int[] noted = {0, 0, 1, 2, 2};
        for (int t = 1; t <= 5; t++) due.good("noted by " + t, x, x.txn(t, 2), noted[t - 1]);
        due.good("waits for none", x, x.txn(5, 3), NONE);
        x.await(5, 0);
        due.good("waits for 4", x, x.txn(5, 3), 4);
        x.commit(4);
        due.good("waits no more", x, x.txn(5, 3), NONE);
        x.commit(5);
        due.good("begin", x, x.begin(), 6);
        due.good("LOW is itself", x, x.txn(6, 1), 6);
        due.refused("txn(0, 0)", x, x.txn(0, 0), 2);
        due.refused("txn(7, 0)", x, x.txn(7, 0), 2);
        due.refused("txn(-1, 0)", x, x.txn(-1, 0), 2);
        due.refused("txn(2, -1)", x, x.txn(2, -1), 1);
        due.refused("txn(99, 4)", x, x.txn(99, 4), 1);
    }

    private static void promise13() {
        RowPruner x = Due.loaded("begin;begin;commit 2;begin;abort 3;begin;");
        due.good("itself", x, x.knows(3, 3), 1);
        due.good("a lesser one that is DONE", x, x.knows(3, 1), 1);
        due.good("one that it noted", x, x.knows(3, 2), 0);
        due.good("one that was DONE", x, x.knows(4, 2), 1);
        due.good("one that is GONE", x, x.knows(5, 3), 0);
        due.good("one that is OPEN", x, x.knows(5, 4), 0);
        due.good("a greater one", x, x.knows(1, 2), 0);
        due.refused("knows(0, 1)", x, x.knows(0, 1), 2);
        due.refused("knows(6, 1)", x, x.knows(6, 1), 2);
        due.refused("knows(1, 0)", x, x.knows(1, 0), 2);
        due.refused("knows(1, 6)", x, x.knows(1, 6), 2);
    }

    private static void promise14() {
        RowPruner x = Due.loaded(DYING + "insert 3 7 70 5;");
        // Row 3 is in slot 4 of page 0: five units were left there.
        int[] old = {0, 0, 1, 10};
        for (int i = 0; i < 4; i++) due.good("sees(3, 0, " + i + ")", x, x.sees(3, 0, i), old[i]);
        int[] fresh = {0, 3, 1, 99};
        for (int i = 0; i < 4; i++) due.good("sees(2, 0, " + i + ")", x, x.sees(2, 0, i), fresh[i]);
        due.good("its own", x, x.sees(3, 3, 3), 70);
        due.refused("another one's", x, x.sees(2, 3, 3), 6);
        x.delete(3, 3);
        due.refused("deleted by itself", x, x.sees(3, 3, 3), 6);
        x.delete(3, 1);
        x.abort(3);
        due.refused("the ENDER itself, GONE, does not see it", x, x.sees(3, 1, 0), 6);
        due.good("others do", x, x.sees(2, 1, 1), 1);
        x.begin();
        x.commit(4);
        x.set(1, 0);
        x.vacuum();
        due.good("FROZEN: seen by one that doesn't know its MAKER", x, x.sees(1, 0, 3), 99);
        due.refused("sees(0, 0, 0)", x, x.sees(0, 0, 0), 2);
        due.refused("sees(5, 0, 0)", x, x.sees(5, 0, 0), 2);
        due.refused("sees(2, 4, 0)", x, x.sees(2, 4, 0), 2);
        due.refused("sees(2, -1, 0)", x, x.sees(2, -1, 0), 2);
        due.refused("sees(2, 0, -1)", x, x.sees(2, 0, -1), 1);
        due.refused("sees(9, 9, 4)", x, x.sees(9, 9, 4), 1);
    }

    private static void promise15And16() {
        RowPruner x = Due.loaded("units 32;row 1 1 20;row 2 2 10;row 3 3 1;begin;update 2 0 1 5 20;update 2 0 2 6 1;update 2 0 2 7 2;commit 2;");
        // Row 0: page 0 slot 0; page 1 slot 0 (not light); slot 1 (another key); slot 2 (light).
        due.good("versions(0)", x, x.versions(0), 4);
        due.good("versions(1)", x, x.versions(1), 1);
        int[][] trail = {{0, 0}, {1, 0}, {1, 1}, {1, 2}};
        for (int i = 0; i < 4; i++) {
            due.good("trail page " + i, x, x.trail(0, i, 0), trail[i][0]);
            due.good("trail slot " + i, x, x.trail(0, i, 1), trail[i][1]);
        }
        due.refused("trail(0, 4, 0)", x, x.trail(0, 4, 0), 5);
        x.prune(1);
        due.good("versions(0)", x, x.versions(0), 2);
        due.good("trail(0, 1, 1)", x, x.trail(0, 1, 1), 2);
        x.vacuum();
        due.good("versions(0)", x, x.versions(0), 1);
        x.begin();
        due.good("a light one", x, x.update(3, 0, 2, 8, 3), 1);
        due.good("in a slot ahead of the older one's", x, x.trail(0, 1, 1), 0);
        due.good("the older one is told first", x, x.trail(0, 0, 1), 2);
        due.refused("trail(0, -1, 0)", x, x.trail(0, -1, 0), 1);
        due.refused("trail(0, 0, 2)", x, x.trail(0, 0, 2), 1);
        due.refused("trail(9, 0, -1)", x, x.trail(9, 0, -1), 1);
        due.refused("trail(3, 0, 0)", x, x.trail(3, 0, 0), 2);
        due.refused("trail(-1, 0, 0)", x, x.trail(-1, 0, 0), 2);
        due.refused("versions(3)", x, x.versions(3), 2);
        due.refused("versions(-1)", x, x.versions(-1), 2);
    }

    private static void promise17() {
        RowPruner x = Due.loaded("units 32;age 0;row 9 1 20;row 4 2 10;row 5 3 1;begin;insert 2 7 1 1;abort 2;begin;look 3 7;delete 3 1;"
            + "update 3 2 5 6 1;commit 3;vacuum;");
        // The update finds no unit free and prunes: row 3, in slot 3, is a stub then.
        int[][] want = {{5, 2}, {5, 0}, {4, 2}, {0, 0}, {2, 2}, {1, 1}, {6, 3}, {0, 0}, {1, 3}, {3, 7}, {7, 2}};
        for (int i = 0; i < want.length; i++) {
            due.good("event(" + i + ", 0)", x, x.event(i, 0), want[i][0]);
            due.good("event(" + i + ", 1)", x, x.event(i, 1), want[i][1]);
        }
        due.refused("event(11, 0)", x, x.event(11, 0), 5);
        for (int i = 0; i < 30; i++) {
            x.begin();
            x.commit(4 + i);
        }
        due.good("event(0, 1)", x, x.event(0, 1), 33);
        due.good("event(23, 1)", x, x.event(23, 1), 10);
        due.refused("event(24, 0)", x, x.event(24, 0), 1);
        due.refused("event(-1, 0)", x, x.event(-1, 0), 1);
        due.refused("event(0, 2)", x, x.event(0, 2), 1);
        due.refused("event(0, -1)", x, x.event(0, -1), 1);
    }
}
