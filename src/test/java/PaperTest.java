/** Promises 33 to 41: what would be, and that asking changes nothing. */
final class PaperTest {
    private static final Due due = new Due("PaperTest");

    public static void main(String[] args) {
        promise33();
        promise34();
        promise35();
        promise36();
        promise37();
        promise38();
        promise39();
        promise40();
        promise41();
        due.end();
    }

    private static void promise33() {
        RowPruner x = Due.loaded("begin;begin;commit 2;begin;begin;");
        // 3 noted 2; 4 noted 3; 5 noted 3, 4.
        due.good("HORIZON", x, x.many(5), 2);
        due.good("without(3)", x, x.without(3), 3);
        due.good("without(4)", x, x.without(4), 2);
        x.commit(3);
        due.good("without(4)", x, x.without(4), 3);
        x.commit(4);
        due.good("without(5)", x, x.without(5), 6);
        due.good("it is OPEN still", x, x.txn(5, 0), 0);
        due.good("HORIZON", x, x.many(5), 3);
        due.refused("without(4)", x, x.without(4), 4);
        due.refused("without(6)", x, x.without(6), 2);
        due.refused("without(0)", x, x.without(0), 2);
    }

    private static void promise34() {
        RowPruner x = Due.loaded("row 1 1 1;row 2 2 2;row 3 3 3;begin;begin;begin;delete 2 0;delete 3 1;delete 4 2;");
        due.good("none", x, x.ring(2, 1), 0);
        x.await(3, 2);
        x.await(4, 0);
        due.good("three", x, x.ring(2, 1), 3);
        due.good("two", x, x.ring(2, 2), 2);
        due.good("none WAITS by it", x, x.many(16), 2);
        due.refused("one that waits", x, x.ring(3, 0), 11);
        due.refused("unseen", x, x.ring(2, 0), 6);
        due.refused("no such row", x, x.ring(2, 3), 2);
        due.refused("no such one", x, x.ring(5, 0), 2);
        due.refused("not OPEN", x, x.ring(1, 0), 4);
        x.abort(4);
        due.refused("the ENDER is GONE", x, x.ring(2, 2), 5);
        x.insert(2, 4, 4, 4);
        due.refused("no ENDER", x, x.ring(2, 3), 5);
        x.commit(3);
        due.refused("the ENDER is DONE", x, x.ring(2, 1), 5);
    }

    private static void promise35() {
        RowPruner x = Due.loaded("row 1 1 1;row 2 2 2;begin;begin;begin;begin;begin;delete 2 0;delete 3 1;");
        due.good("none", x, x.blocks(2), 0);
        x.await(4, 1);
        x.await(5, 1);
        due.good("two", x, x.blocks(3), 2);
        x.await(3, 0);
        x.await(6, 0);
        due.good("by others, too", x, x.blocks(2), 4);
        due.good("two", x, x.blocks(3), 2);
        due.good("none", x, x.blocks(6), 0);
        x.abort(3);
        due.good("one", x, x.blocks(2), 1);
        due.refused("not OPEN", x, x.blocks(3), 4);
        due.refused("no such one", x, x.blocks(7), 2);
        due.refused("no such one", x, x.blocks(-1), 2);
    }

    private static void promise36() {
        RowPruner x = Due.loaded("begin;begin;begin;");
        due.good("the first", x, x.holder(), 2);
        x.commit(2);
        due.good("3 noted 2, as 4 did", x, x.holder(), 3);
        x.begin();
        x.commit(3);
        due.good("4 noted 2", x, x.holder(), 4);
        x.commit(4);
        due.good("5 noted 3, 4", x, x.holder(), 5);
        x.abort(5);
        due.refused("none is OPEN", x, x.holder(), 5);
    }

    private static void promise37() {
        RowPruner x = Due.loaded("row 1 1 3;row 2 2 4;row 3 3 5;begin;begin;delete 2 0;commit 2;begin;delete 4 1;commit 4;begin;delete 5 2;");
        // 3 noted 2; 4 noted 3; 5 noted 3.
        due.good("3 holds what 2 ended, and 5 what 4 ended", x, x.holds(3), 3);
        due.good("5 holds nothing", x, x.holds(5), 0);
        due.good("3 is OPEN", x, x.many(15), 2);
        x.commit(3);
        due.good("5: what 4 ended, and its own", x, x.holds(5), 9);
        due.good("none is changed", x, x.page(0, 2), 3);
        due.good("no event", x, x.event(0, 1), 3);
        due.refused("not OPEN", x, x.holds(3), 4);
        due.refused("no such one", x, x.holds(6), 2);
    }

    private static void promise38() {
        RowPruner x = Due.loaded("units 32;batch 1;age 1;row 1 1 10;row 2 2 11;row 3 3 12;row 4 4 13;begin;delete 2 0;update 2 1 2 3 4;delete 2 3;");
        int[] none = {0, 0, 0, 0, 0, 0};
        for (int i = 0; i < 6; i++) due.good("gains(" + i + ") of an OPEN one", x, x.gains(i), none[i]);
        x.commit(2);
        // The rest of row 1 and row 2 are of transactions 2 and 1: HORIZON 3, AGE 1.
        int[] gains = {34, 3, 2, 2, 2, 1};
        for (int i = 0; i < 6; i++) due.good("gains(" + i + ")", x, x.gains(i), gains[i]);
        due.is("VERSIONS stay", x.many(7), 5);
        due.is("STUBS", x.many(12), 0);
        due.is("not CLEAR", x.page(5, 4), 0);
        due.is("no event", x.event(0, 0), 6);
        due.is("counts", x.counts(0), 0);
        x.set(0, 2);
        due.good("PASSES", x, x.gains(3), 1);
        due.good("vacuum does so", x, x.vacuum(), 2);
        due.good("counts(1)", x, x.counts(1), 3);
        for (int i = 0; i < 6; i++) due.good("gains(" + i + ") behind it", x, x.gains(i), 0);
        due.refused("gains(-1)", x, x.gains(-1), 1);
        due.refused("gains(6)", x, x.gains(6), 1);
    }

    private static void promise39() {
        RowPruner x = Due.loaded("units 32;row 1 1 20;row 2 2 10;row 3 3 20;row 4 4 10;row 5 5 20;begin;delete 2 1;");
        due.refused("none would be", x, x.best(), 5);
        x.commit(2);
        due.good("page 0", x, x.best(), 0);
        x.begin();
        x.delete(3, 3);
        x.commit(3);
        due.good("of two the first", x, x.best(), 0);
        x.begin();
        x.delete(4, 4);
        x.commit(4);
        due.good("page 2", x, x.best(), 2);
        due.is("none went", x.many(7), 5);
        x.prune(2);
        due.good("page 0", x, x.best(), 0);
        x.vacuum();
        due.refused("none would be", x, x.best(), 5);
    }

    private static void promise40() {
        RowPruner x = Due.loaded("units 32;row 1 1 20;row 1 2 20;row 2 3 1;vacuum;begin;");
        due.good("CLEAR pages", x, x.reads(2, 1), 0);
        x.delete(2, 1);
        due.good("one is not", x, x.reads(2, 1), 1);
        x.delete(2, 2);
        due.good("two", x, x.reads(2, 1), 2);
        due.good("READS are not counted", x, x.counts(7), 0);
        x.commit(2);
        x.begin();
        due.good("with a DEAD one", x, x.reads(3, 1), 2);
        due.good("and again: it is not KILLED by it", x, x.reads(3, 1), 2);
        x.look(3, 1);
        due.good("it is now", x, x.reads(3, 1), 1);
        x.begin();
        x.delete(3, 0);
        x.await(4, 0);
        due.good("for one that waits, too", x, x.reads(4, 1), 1);
        due.refused("KEY", x, x.reads(9, 100), 1);
        due.refused("KEY", x, x.reads(3, -1), 1);
        due.refused("no such one", x, x.reads(5, 1), 2);
        due.refused("not OPEN", x, x.reads(2, 1), 4);
    }

    private static void promise41() {
        RowPruner x = Due.loaded("units 40;row 1 1 10;row 2 2 11;begin;delete 2 0;begin;insert 3 3 3 3;update 3 1 2 4 5;begin;insert 4 1 1 1;abort 4;");
        due.good("page 0", x, x.most(0), 40 - 3 - 5);
        due.good("page 5", x, x.most(5), 40);
        due.is("all stays", x.page(0, 1), 40 - 10 - 11 - 3 - 5 - 1);
        due.is("OPEN", x.many(15), 2);
        due.refused("most(6)", x, x.most(6), 2);
        due.refused("most(-1)", x, x.most(-1), 2);
    }
}
