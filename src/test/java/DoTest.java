/** Promises 18 to 32: what is done. */
final class DoTest {
    private static final Due due = new Due("DoTest");
    private static final int NONE = RowPruner.NONE;

    public static void main(String[] args) {
        promise18();
        promise19And20();
        promise21();
        promise22();
        promise22Statuses();
        promise22Refused();
        promise23();
        promise24();
        promise25();
        promise25Chains();
        promise26();
        promise26Clear();
        promise27();
        promise28();
        promise29();
        promise29Refused();
        promise30();
        promise31And32();
        due.end();
    }

    private static void promise18() {
        RowPruner x = new RowPruner();
        for (int t = 2; t <= 60; t++) due.good("begin", x, x.begin(), t);
        due.refused("begin of a 61st", x, x.begin(), 3);
        due.is("many(15)", x.many(15), 59);
        due.is("it noted all", x.txn(60, 2), 58);
        due.is("LOW", x.txn(60, 1), 2);
        x.commit(2);
        due.refused("begin of a 61st", x, x.begin(), 3);
        due.is("the next one", x.many(4), 61);
        due.is("60 doesn't know 2", x.knows(60, 2), 0);
    }

    private static void promise19And20() {
        RowPruner x = Due.loaded("row 1 1 1;begin;begin;begin;delete 2 0;");
        // 3 noted 2; 4 noted 2 and 3.
        due.good("await", x, x.await(3, 0), 2);
        due.refused("commit of one that waits", x, x.commit(3), 11);
        due.good("commit(2): 4 noted it", x, x.commit(2), 2);
        due.is("DONE", x.txn(2, 0), 1);
        due.is("event", x.event(0, 0), 6);
        due.is("event", x.event(0, 1), 2);
        due.good("abort(4)", x, x.abort(4), 2);
        due.is("GONE", x.txn(4, 0), 2);
        due.is("event", x.event(0, 0), 7);
        due.is("event", x.event(0, 1), 4);
        due.good("commit(3), which waits no more", x, x.commit(3), 5);
        due.refused("commit again", x, x.commit(3), 4);
        due.refused("abort of a DONE one", x, x.abort(3), 4);
        due.refused("commit of a GONE one", x, x.commit(4), 4);
        due.refused("abort(1)", x, x.abort(1), 4);
        for (int t : new int[] {-1, 0, 5, 61}) {
            due.refused("commit(" + t + ")", x, x.commit(t), 2);
            due.refused("abort(" + t + ")", x, x.abort(t), 2);
        }
        RowPruner y = Due.loaded("row 1 1 1;begin;begin;begin;delete 2 0;");
        y.await(3, 0);
        due.good("abort of one that waits", y, y.abort(3), 2);
        due.is("it waits no more", y.many(16), 0);
        y.await(4, 0);
        due.good("abort of the one waited for", y, y.abort(2), 2);
        due.is("none waits", y.many(16), 0);
        due.good("delete behind it", y, y.delete(4, 0), 1);
    }

    private static void promise21() {
        RowPruner x = Due.loaded("units 40;begin;");
        due.good("insert", x, x.insert(2, 99, 999, 20), 0);
        due.good("insert", x, x.insert(2, 0, 0, 20), 1);
        due.good("insert: page 0 has no unit", x, x.insert(2, 5, 5, 1), 2);
        due.is("PAGE", x.trail(2, 0, 0), 1);
        due.is("not LIGHT", x.version(0, 1, 8), 0);
        due.is("MAKER", x.version(0, 1, 4), 2);
        due.is("an ENTRY", x.entry(0, 2), 1);
        due.refused("KEY 100", x, x.insert(2, 100, 0, 1), 1);
        due.refused("KEY -1", x, x.insert(2, -1, 0, 1), 1);
        due.refused("VALUE 1000", x, x.insert(2, 0, 1000, 1), 1);
        due.refused("VALUE -1", x, x.insert(2, 0, -1, 1), 1);
        due.refused("SIZE 0", x, x.insert(2, 0, 0, 0), 1);
        due.refused("SIZE 21 of none", x, x.insert(9, 0, 0, 21), 1);
        due.refused("no such one", x, x.insert(3, 0, 0, 1), 2);
        due.refused("not OPEN", x, x.insert(1, 0, 0, 1), 4);
        for (int row = 3; row < 13; row++) due.good("insert", x, x.insert(2, 1, 1, row < 4 ? 19 : 20), row);
        due.refused("no PAGE has PLACE", x, x.insert(2, 1, 1, 20), 5);
        x.begin();
        x.delete(2, 0);
        x.abort(2);
        due.is("units are FREE only by pruning", x.page(0, 1), 0);
        due.refused("no PLACE", x, x.insert(3, 1, 1, 1), 5);
        RowPruner y = Due.loaded("begin;" + "insert 2 1 1 1;".repeat(40) + "begin;");
        due.refused("a 41st row", y, y.insert(2, 1, 1, 1), 3);
        due.refused("a 41st row by one that isn't OPEN", y, y.insert(1, 1, 1, 1), 3);
        due.refused("a 41st row by none", y, y.insert(4, 1, 1, 1), 2);
        RowPruner z = Due.loaded("row 1 1 1;begin;begin;delete 2 0;");
        z.await(3, 0);
        due.refused("one that waits", z, z.insert(3, 1, 1, 1), 11);
        RowPruner w = Due.loaded("units 96;" + "row 1 1 1;".repeat(30) + "begin;");
        for (int i = 0; i < 30; i++) due.good("update", w, w.update(2, i, 2, 1, 1), 0);
        due.is("ENTRIES", w.many(6), 60);
        due.refused("a 61st ENTRY", w, w.insert(2, 1, 1, 1), 3);
        due.refused("by one that isn't OPEN", w, w.insert(1, 1, 1, 1), 3);
        due.refused("update without PLACE", w, w.update(2, 0, 3, 1, 1), 5);
    }

    private static void promise22() {
        RowPruner x = Due.loaded("units 40;row 1 1 10;row 2 2 10;row 3 3 20;begin;");
        due.good("no room: another page", x, x.update(2, 0, 1, 5, 10), 0);
        due.is("PAGE", x.sees(2, 0, 0), 1);
        due.good("there the same KEY: LIGHT", x, x.update(2, 0, 1, 6, 10), 1);
        due.is("no ENTRY more", x.many(6), 4);
        due.good("another KEY: not LIGHT", x, x.update(2, 0, 7, 7, 10), 0);
        due.is("an ENTRY more", x.many(6), 5);
        due.is("ENDER of the old one", x.version(1, 1, 5), 2);
        due.is("NEXT of the old one", x.version(1, 1, 7), 2);
        due.is("it sees the new one alone", x.sees(2, 0, 2), 7);
        due.is("VERSIONS", x.versions(0), 4);
        x.commit(2);
        x.begin();
        due.good("page 1 is pruned: no room else", x, x.update(3, 0, 7, 8, 20), 1);
        due.is("the first UNUSED SLOT", x.sees(3, 0, 1), 1);
        due.is("the first one of page 1 is a STUB", x.slot(1, 0, 0), 3);
        due.is("the second one's VERSION went, its SLOT is used again", x.counts(2), 1);
        due.is("page 0 is not pruned", x.many(12), 1);
        due.is("PRUNINGS", x.counts(0), 1);
        RowPruner y = Due.loaded("units 40;row 1 1 20;row 2 2 20;row 3 3 20;row 4 4 20;begin;delete 2 1;commit 2;begin;");
        due.good("the pruned page has PLACE then", y, y.update(3, 0, 1, 2, 20), 1);
        due.is("SLOT", y.sees(3, 0, 1), 2);
        RowPruner z = Due.loaded("units 40;row 1 1 1;row 2 2 20;begin;update 2 0 1 2 1;commit 2;vacuum;begin;");
        // Row 0 lives in slot 2 then, slot 0 is TURNED to it.
        due.good("behind a TURNED one", z, z.update(3, 0, 1, 3, 1), 1);
        due.is("SLOT", z.sees(3, 0, 1), 3);
        due.is("CHAIN", z.slot(0, 0, 3), 2);
    }

    private static void promise22Statuses() {
        RowPruner x = Due.loaded("row 1 1 1;row 2 2 2;begin;begin;begin;begin;begin;update 2 0 1 1 1;commit 2;delete 3 1;");
        due.refused("SIZE", x, x.update(9, 9, 1, 1, 21), 1);
        due.refused("VALUE", x, x.update(2, 0, 1, 1000, 1), 1);
        due.refused("KEY", x, x.update(2, 0, -1, 1, 1), 1);
        due.refused("no such row", x, x.update(2, 2, 1, 1, 1), 2);
        due.refused("no such one", x, x.update(7, 0, 1, 1, 1), 2);
        due.refused("not OPEN", x, x.update(2, 0, 1, 1, 1), 4);
        due.refused("it deleted it", x, x.update(3, 1, 1, 1, 1), 6);
        due.refused("another one that is OPEN", x, x.update(4, 1, 1, 1, 1), 7);
        due.refused("another one that is DONE", x, x.update(4, 0, 1, 1, 1), 8);
        x.await(4, 1);
        due.refused("it waits, and doesn't see it", x, x.update(4, 0, 1, 1, 1), 11);
        x.abort(3);
        due.good("the ENDER is GONE", x, x.update(4, 1, 2, 3, 4), 1);
        due.is("ENDER", x.version(0, 1, 5), 4);
        x.abort(4);
        due.is("it still tells it", x.version(0, 1, 5), 4);
        due.good("another ENDER", x, x.update(5, 1, 2, 4, 4), 1);
        due.is("ENDER", x.version(0, 1, 5), 5);
        due.is("NEXT", x.version(0, 1, 7), 4);
    }

    /** A page is pruned on the way, but there is no room even so: nothing is changed. */
    private static void promise22Refused() {
        RowPruner x = Due.loaded("units 32;" + "row 1 1 20;".repeat(6) + "row 2 2 1;begin;delete 2 6;commit 2;begin;");
        due.refused("no PAGE has PLACE", x, x.update(3, 0, 1, 1, 20), 5);
        due.is("the DEAD one is there", x.versions(6), 1);
        due.is("PRUNINGS", x.counts(0), 0);
        due.is("event", x.event(0, 0), 6);
        due.is("no ENDER", x.version(0, 0, 5), NONE);
        due.is("SLOTS", x.page(0, 0), 2);
    }

    private static void promise23() {
        RowPruner x = Due.loaded("row 1 1 1;row 2 2 2;begin;update 2 0 1 2 1;begin;begin;");
        due.good("delete: two VERSIONS", x, x.delete(2, 0), 2);
        due.is("ENDER", x.version(0, 2, 5), 2);
        due.is("NEXT", x.version(0, 2, 7), NONE);
        due.refused("it doesn't see it", x, x.delete(2, 0), 6);
        due.refused("another one that is OPEN", x, x.delete(3, 0), 7);
        x.commit(2);
        due.refused("another one that is DONE", x, x.delete(3, 0), 8);
        due.refused("not OPEN", x, x.delete(2, 1), 4);
        due.refused("no such row", x, x.delete(3, 2), 2);
        due.refused("no such row", x, x.delete(3, -1), 2);
        due.refused("no such one", x, x.delete(5, 0), 2);
        due.good("delete", x, x.delete(3, 1), 1);
        x.await(4, 1);
        due.refused("one that waits", x, x.delete(4, 0), 11);
    }

    private static void promise24() {
        RowPruner x = Due.loaded("row 1 1 1;row 2 2 2;row 3 3 3;begin;begin;begin;begin;delete 2 0;delete 3 1;delete 4 2;");
        due.good("3 waits for 2", x, x.await(3, 0), 2);
        due.is("txn(3, 3)", x.txn(3, 3), 2);
        due.refused("3 waits", x, x.await(3, 2), 11);
        due.good("4 waits for 3", x, x.await(4, 1), 3);
        due.refused("a RING of three", x, x.await(2, 2), 12);
        due.refused("a RING of two", x, x.await(2, 1), 12);
        due.is("2 waits for none", x.txn(2, 3), NONE);
        due.good("5 waits for 4", x, x.await(5, 2), 4);
        due.is("WAIT", x.many(16), 3);
        due.refused("it doesn't see its own", x, x.await(2, 0), 6);
        due.refused("no such row", x, x.await(2, 3), 2);
        due.refused("no such one", x, x.await(6, 0), 2);
        due.refused("not OPEN", x, x.await(1, 0), 4);
        x.abort(4);
        due.is("5 waits no more", x.txn(5, 3), NONE);
        due.refused("the ENDER is GONE", x, x.await(5, 2), 5);
        x.begin();
        x.commit(2);
        due.refused("the ENDER is DONE", x, x.await(5, 0), 5);
        x.insert(5, 9, 9, 9);
        due.refused("there is none", x, x.await(5, 3), 5);
        due.refused("unseen", x, x.await(6, 3), 6);
    }

    private static void promise25() {
        RowPruner x = Due.loaded("row 1 1 1;row 2 2 2;begin;delete 2 0;update 2 1 2 3 4;update 2 1 2 4 5;");
        due.good("none is DEAD", x, x.prune(0), 0);
        due.is("no event", x.event(0, 0), NONE);
        x.commit(2);
        due.good("three are", x, x.prune(0), 3);
        due.is("a STUB", x.slot(0, 0, 0), 3);
        due.is("TURNED", x.slot(0, 1, 1), 3);
        due.is("UNUSED", x.slot(0, 2, 0), 0);
        due.is("its ENTRIES stay", x.many(6), 2);
        int[][] events = {{0, 0}, {2, 1}, {1, 0}, {6, 2}};
        for (int i = 0; i < 4; i++) {
            due.is("event kind " + i, x.event(i, 0), events[i][0]);
            due.is("event number " + i, x.event(i, 1), events[i][1]);
        }
        due.good("another page", x, x.prune(5), 0);
        due.refused("prune(6)", x, x.prune(6), 2);
        due.refused("prune(-1)", x, x.prune(-1), 2);
    }

    private static void promise25Chains() {
        RowPruner x = Due.loaded("row 1 1 1;begin;update 2 0 1 2 1;commit 2;begin;begin;update 4 0 1 3 1;commit 4;begin;");
        // 3 holds the horizon at 3: the second version is DYING.
        due.good("the first one goes", x, x.prune(0), 1);
        due.is("TURNED to the second", x.slot(0, 0, 1), 1);
        due.is("CHAIN", x.slot(0, 0, 3), 2);
        x.update(5, 0, 1, 4, 1);
        due.is("the first free SLOT", x.sees(5, 0, 1), 3);
        x.abort(5);
        x.commit(3);
        due.good("the second one, and that of one that is GONE", x, x.prune(0), 2);
        due.is("TURNED anew", x.slot(0, 0, 1), 2);
        due.is("event", x.event(0, 0), 0);
        due.is("event", x.event(1, 0), 2);
        due.is("its slot", x.event(1, 1), 0);
        x.begin();
        x.update(6, 0, 2, 5, 1);
        due.is("another KEY is not in the CHAIN", x.slot(0, 0, 3), 1);
        x.commit(6);
        due.good("prune", x, x.prune(0), 1);
        due.is("a STUB", x.slot(0, 0, 0), 3);
        due.is("its NEXT was an ENTRY's own", x.slot(0, 1, 0), 1);
    }

    private static void promise26() {
        RowPruner x = Due.loaded("batch 2;units 32;" + "row 1 1 10;".repeat(7) + "begin;delete 2 0;delete 2 2;delete 2 3;delete 2 5;delete 2 6;");
        due.good("none", x, x.vacuum(), 0);
        x.commit(2);
        due.good("five STUBS", x, x.vacuum(), 5);
        due.is("PASSES", x.counts(3), 3);
        due.is("ENTRIES", x.many(6), 2);
        int[][] events = {{4, 1}, {4, 2}, {4, 2}, {0, 2}, {1, 20}};
        for (int i = 0; i < 5; i++) {
            due.is("event kind " + i, x.event(i, 0), events[i][0]);
            due.is("event number " + i, x.event(i, 1), events[i][1]);
        }
        due.is("SLOTS behind are no more", x.page(0, 0), 2);
        due.is("the one ahead is UNUSED", x.slot(0, 0, 0), 0);
        due.is("page 2 has none", x.page(2, 0), 0);
        due.is("none is FROZEN: AGE 5", x.many(10), 0);
        for (int t = 3; t <= 6; t++) {
            x.begin();
            x.commit(t);
            x.vacuum();
            due.is("FROZEN at horizon " + (t + 1), x.many(10), t == 6 ? 2 : 0);
        }
        due.is("event", x.event(0, 0), 5);
        due.is("the ROW, in the order of the SLOTS", x.event(0, 1), 4);
        due.is("the ROW", x.event(1, 1), 1);
        x.begin();
        x.delete(7, 1);
        x.commit(7);
        due.is("a FROZEN one is DEAD by its ENDER", x.many(8), 1);
    }

    private static void promise26Clear() {
        RowPruner x = Due.loaded("row 1 1 1;row 2 2 2;vacuum;");
        due.is("CLEAR", x.page(0, 4), 1);
        x.begin();
        due.is("CLEAR", x.page(0, 4), 1);
        x.delete(2, 0);
        due.is("another ENDER", x.page(0, 4), 0);
        x.vacuum();
        due.is("an ENDER that is OPEN", x.page(0, 4), 0);
        x.abort(2);
        due.is("not till VACUUM", x.page(0, 4), 0);
        x.vacuum();
        due.is("an ENDER that is GONE", x.page(0, 4), 1);
        x.begin();
        x.insert(3, 3, 3, 3);
        due.is("a VERSION comes", x.page(0, 4), 0);
        x.vacuum();
        due.is("its MAKER is OPEN", x.page(0, 4), 0);
        x.begin();
        x.commit(3);
        x.vacuum();
        due.is("its MAKER is not less than HORIZON", x.page(0, 4), 0);
        x.commit(4);
        x.vacuum();
        due.is("CLEAR", x.page(0, 4), 1);
        due.is("an empty one, too", x.page(1, 4), 1);
        x.repack();
        due.is("none behind repack()", x.page(1, 4), 0);
        x.mark();
        x.vacuum();
        x.back();
        due.is("taken back", x.page(1, 4), 0);
    }

    private static void promise27() {
        RowPruner x = Due.loaded("row 5 50 1;row 5 51 1;row 6 60 1;begin;update 2 0 5 52 1;begin;update 2 2 5 61 1;");
        // Slots 0 to 2 the rows, 3 row 0 anew (light), 4 row 2 anew with key 5.
        due.good("look(2, 5)", x, x.look(2, 5), 3);
        due.good("look(3, 5)", x, x.look(3, 5), 2);
        due.good("look(2, 6): it is another one now", x, x.look(2, 6), 0);
        due.good("look(3, 6)", x, x.look(3, 6), 1);
        due.good("READS", x, x.counts(7), 8);
        due.good("none", x, x.look(2, 7), 0);
        x.abort(2);
        due.good("look", x, x.look(3, 5), 2);
        due.is("the GONE one's ENTRY is KILLED", x.entry(2, 3), 1);
        due.is("not the one whose CHAIN has one that lives", x.entry(0, 3), 0);
        due.is("event", x.event(0, 0), 3);
        due.is("its KEY", x.event(0, 1), 5);
        due.is("READS", x.counts(7), 11);
        x.look(3, 5);
        due.is("READS, not of the KILLED one", x.counts(7), 13);
        x.vacuum();
        due.is("the KILLED one is gone", x.many(6), 3);
        x.look(3, 5);
        due.is("READS of a CLEAR page", x.counts(7), 13);
        due.refused("KEY", x, x.look(3, 100), 1);
        due.refused("KEY", x, x.look(9, -1), 1);
        due.refused("no such one", x, x.look(4, 5), 2);
        due.refused("not OPEN", x, x.look(2, 5), 4);
        x.begin();
        x.delete(3, 0);
        x.await(4, 0);
        due.refused("one that waits", x, x.look(4, 5), 11);
        RowPruner y = Due.loaded("row 8 1 1;begin;delete 2 0;commit 2;begin;prune 0;");
        due.good("a STUB", y, y.look(3, 8), 0);
        due.is("is KILLED", y.entry(0, 3), 1);
        due.is("READS", y.counts(7), 1);
    }

    private static void promise28() {
        RowPruner x = Due.loaded("row 5 50 1;row 5 51 1;begin;update 2 0 5 52 1;update 2 0 5 53 1;");
        due.refused("found(0, 0) ahead of any", x, x.found(0, 0), 5);
        x.look(2, 5);
        int[][] found = {{0, 53, 0, 3, 2}, {1, 51, 0, 1, 0}};
        for (int i = 0; i < 2; i++) {
            for (int w = 0; w < 5; w++) due.good("found(" + i + ", " + w + ")", x, x.found(i, w), found[i][w]);
        }
        due.refused("found(2, 0)", x, x.found(2, 0), 5);
        due.refused("found(-1, 0)", x, x.found(-1, 0), 1);
        due.refused("found(0, 5)", x, x.found(0, 5), 1);
        due.refused("found(0, -1)", x, x.found(0, -1), 1);
        x.look(2, 100);
        due.good("behind a refusal", x, x.found(0, 1), 53);
        x.mark();
        x.delete(2, 0);
        x.commit(2);
        x.repack();
        due.good("as it was then", x, x.found(0, 1), 53);
        x.begin();
        x.look(3, 9);
        due.refused("nothing FOUND", x, x.found(0, 0), 5);
        x.back();
        due.good("taken back", x, x.found(0, 3), 3);
    }

    private static void promise29() {
        RowPruner x = Due.loaded("units 40;row 9 1 20;row 9 2 20;row 3 3 15;row 4 4 10;begin;update 2 1 9 5 5;delete 2 2;"
            + "insert 2 1 6 20;commit 2;vacuum;begin;update 3 0 9 7 1;insert 3 2 2 2;abort 3;");
        due.good("repack", x, x.repack(), 2);
        // By keys: row 4 (1), row 3 (4), row 0 (9), row 1 (9).
        int[][] want = {{4, 1, 6, 20, 2}, {3, 4, 4, 10, 1}, {1, 9, 5, 5, 2}};
        for (int s = 0; s < 3; s++) {
            for (int w = 0; w < 5; w++) due.good("version(0, " + s + ", " + w + ")", x, x.version(0, s, w), want[s][w]);
            for (int w = 5; w < 9; w++) due.good("no ENDER, NEXT, not LIGHT", x, x.version(0, s, w), w == 8 ? 0 : NONE);
        }
        due.good("row 0", x, x.version(1, 0, 2), 1);
        due.good("its ENDER was GONE", x, x.version(1, 0, 5), NONE);
        due.good("its NEXT", x, x.version(1, 0, 6), NONE);
        due.is("VERSIONS", x.many(7), 4);
        due.is("ENTRIES", x.many(6), 4);
        int[][] entries = {{1, 0, 0}, {4, 0, 1}, {9, 0, 2}, {9, 1, 0}};
        for (int i = 0; i < 4; i++) for (int w = 0; w < 3; w++) due.is("entry", x.entry(i, w), entries[i][w]);
        due.is("TURNED", x.many(13), 0);
        due.is("versions(2)", x.versions(2), 0);
        due.is("a row that is no more still counts", x.many(3), 6);
        due.is("not CLEAR", x.page(0, 4), 0);
        x.begin();
        due.refused("one is OPEN", x, x.repack(), 10);
        RowPruner y = Due.loaded("age 0;row 1 1 1;begin;commit 2;vacuum;repack;");
        due.is("FROZEN stays", y.version(0, 0, 9), 1);
        due.good("of an empty store", new RowPruner(), new RowPruner().repack(), 0);
    }

    private static void promise29Refused() {
        // By keys the ten small ones fill page 0's slots, and the large ones need six pages more.
        StringBuilder text = new StringBuilder("units 32;");
        for (int p = 0; p < 6; p++) text.append("row ").append(50 + p).append(" 1 20;row ").append(p).append(" 1 12;");
        RowPruner x = Due.loaded(text.toString());
        due.refused("repack without PLACE", x, x.repack(), 5);
        due.is("VERSIONS stay", x.many(7), 12);
        due.is("ENTRIES stay", x.many(6), 12);
        due.is("SLOTS stay", x.page(0, 0), 2);
        x.begin();
        due.refused("10 is ahead of 5", x, x.repack(), 10);
    }

    private static void promise30() {
        RowPruner x = new RowPruner();
        due.good("set(0, 8)", x, x.set(0, 8), 3);
        due.good("set(0, 1)", x, x.set(0, 1), 8);
        due.good("set(1, 0)", x, x.set(1, 0), 5);
        due.good("set(1, 30)", x, x.set(1, 30), 0);
        due.is("BATCH", x.many(1), 1);
        due.is("AGE", x.many(2), 30);
        due.refused("set(0, 0)", x, x.set(0, 0), 1);
        due.refused("set(0, 9)", x, x.set(0, 9), 1);
        due.refused("set(1, -1)", x, x.set(1, -1), 1);
        due.refused("set(1, 31)", x, x.set(1, 31), 1);
        due.refused("set(2, 1)", x, x.set(2, 1), 1);
        due.refused("set(-1, 1)", x, x.set(-1, 1), 1);
        due.is("BATCH", x.many(1), 1);
    }

    private static void promise31And32() {
        RowPruner x = Due.loaded("units 50;row 1 1 1;begin;");
        due.good("mark", x, x.mark(), 1);
        x.update(2, 0, 1, 2, 3);
        x.look(2, 1);
        x.set(0, 7);
        x.set(1, 7);
        due.good("mark", x, x.mark(), 2);
        x.commit(2);
        x.begin();
        x.delete(3, 0);
        x.vacuum();
        due.good("mark", x, x.mark(), 3);
        due.refused("a fourth mark", x, x.mark(), 3);
        due.is("MARKS", x.many(14), 3);
        Due.load(x, "begin;begin;");
        x.feed(0, 0, 0, 0, 0);
        due.good("back", x, x.back(), 2);
        due.is("UNITS", x.many(0), 50);
        due.is("ENDER", x.version(0, 1, 5), 3);
        due.is("CLEAR", x.page(5, 4), 1);
        due.is("the tape is not taken back", x.feed(0, 0, 0, 0, 0), 40);
        due.good("back", x, x.back(), 1);
        due.is("TRANSACTION 2 is OPEN", x.txn(2, 0), 0);
        due.is("the next one", x.many(4), 3);
        due.is("HORIZON", x.many(5), 2);
        due.is("no event", x.event(0, 0), NONE);
        due.is("BATCH", x.many(1), 7);
        due.is("AGE", x.many(2), 7);
        due.is("VERSIONS", x.many(7), 2);
        due.is("FOUND", x.found(0, 1), 2);
        due.good("mark again", x, x.mark(), 2);
        due.good("back", x, x.back(), 1);
        due.good("back", x, x.back(), 0);
        due.is("VERSIONS", x.many(7), 1);
        due.is("BATCH", x.many(1), 3);
        due.is("READS", x.counts(7), 0);
        due.refused("FOUND", x, x.found(0, 1), 5);
        due.refused("back", x, x.back(), 5);
        due.good("as it was", x, x.update(2, 0, 1, 9, 9), 1);
    }
}
