/** The boundary cases of promises 33 to 41, each in a case of its own: what would be, and that asking changes nothing. */
final class BoundsPaperTest {
    private static final Cases on = new Cases(BoundsPaperTest.class, 33, 41);

    public static void main(String[] args) {
        on.runAll();
    }

    // ---- promise 33: without

    private static void promise33NoSuchOneOrNotOpen() {
        on.refusedEach("without(..)", States.ENDED, (x, t) -> x.without(t), 2, States.noTxns());
        on.refusedEach("without()", States.ENDED, RowPruner::without, 4, 1, 2, 3);
    }

    private static void promise33TheLastThatIsOpen() {
        on.tells("the next number", Cases.text("begin;"), x -> x.without(2), 3);
        on.tells("the next number", States.ENDED, x -> x.without(4), 5);
        on.tells("61", x -> {
            for (int t = 2; t <= 60; t++) x.begin();
            for (int t = 2; t < 60; t++) x.commit(t);
        }, x -> x.without(60), 61);
    }

    private static void promise33OthersNotedIt() {
        on.tells("LOW of those that noted it stays", States.HELD, x -> x.without(2), 2);
        on.tells("2 holds it", States.HELD, x -> x.without(4), 2);
        on.tells("none noted it", Cases.text("begin;begin;commit 2;begin;"), x -> x.without(3), 3);
    }

    private static void promise33OneThatWaits() {
        on.tells("without(4)", States.WAITING, x -> x.without(4), 2);
    }

    private static void promise33AsCommitWouldTell() {
        for (int t = 2; t <= 4; t++) {
            int txn = t;
            on.tells("without(" + t + ")", States.HELD, x -> x.without(txn), Cases.after(States.HELD).commit(txn));
        }
    }

    // ---- promise 34: ring

    private static void promise34NoSuchOneNoSuchRow() {
        on.refusedEach("ring(.., 0)", States.HELD, (x, t) -> x.ring(t, 0), 2, States.noTxns());
        on.refusedEach("ring(4, ..)", States.HELD, (x, r) -> x.ring(4, r), 2, States.noRows());
    }

    private static void promise34NotOpen() {
        on.refusedEach("ring()", States.ENDED, (x, t) -> x.ring(t, 0), 4, 1, 2, 3);
    }

    private static void promise34OneThatWaits() {
        on.refused("ring(4, 1)", States.WAITING, x -> x.ring(4, 1), 11);
    }

    private static void promise34Unseen() {
        on.refused("its own, deleted", States.HELD, x -> x.ring(2, 0), 6);
    }

    private static void promise34NoneThatIsOpen() {
        on.refused("no ENDER", Cases.text("row 1 1 1;begin;"), x -> x.ring(2, 0), 5);
        on.refused("GONE", States.ENDED, x -> x.ring(4, 0), 5);
        on.refused("DONE", States.ENDED, x -> x.ring(4, 1), 5);
    }

    private static void promise34WhatComesFirst() {
        on.refused("2, 4", States.ENDED, x -> x.ring(2, 2), 2);
        on.refused("2, 11", States.WAITING, x -> x.ring(4, 2), 2);
        on.refused("4, 6", States.ENDED, x -> x.ring(2, 0), 4);
        on.refused("4, 5", States.ENDED, x -> x.ring(1, 1), 4);
        on.refused("11, 6", Cases.then(States.HELD, x -> x.await(2, 1)), x -> x.ring(2, 0), 11);
        on.refused("11, 5", Cases.then(Cases.text("row 1 1 1;row 2 2 2;begin;begin;delete 2 0;"), x -> x.await(3, 0)), x -> x.ring(3, 1), 11);
    }

    private static void promise34NoRing() {
        on.tells("none WAITS", States.HELD, x -> x.ring(4, 0), 0);
        on.tells("one WAITS, but for another one", States.WAITING, x -> x.ring(3, 0), 0);
    }

    /** Rows 0 to 3, ended by 2 to 5, all OPEN; 2 WAITS for 3, 3 for 4, 4 for 5. */
    private static final Cases.Run ROW = Cases.then(States.FOUR, x -> x.await(2, 1), x -> x.await(3, 2), x -> x.await(4, 3));

    private static void promise34RingsOfTwoToFour() {
        on.tells("5 for 4", ROW, x -> x.ring(5, 2), 2);
        on.tells("5 for 3", ROW, x -> x.ring(5, 1), 3);
        on.tells("5 for 2", ROW, x -> x.ring(5, 0), 4);
        on.tells("6, for which none WAITS", ROW, x -> x.ring(6, 0), 0);
        on.tells("it is cut", Cases.then(ROW, x -> x.abort(3)), x -> x.ring(5, 0), 0);
        on.tells("it is shorter", Cases.then(ROW, x -> x.abort(2)), x -> x.ring(5, 1), 3);
    }

    private static void promise34TheLongestRing() {
        Cases.Run run = x -> {
            Due.load(x, "row 1 1 1;".repeat(40) + "begin;".repeat(40));
            for (int t = 2; t <= 41; t++) x.delete(t, t - 2);
            for (int t = 2; t <= 40; t++) x.await(t, t - 1);
        };
        on.good("forty", run, x -> x.ring(41, 0), 40);
        on.good("39", run, x -> x.ring(41, 1), 39);
    }

    // ---- promise 35: blocks

    private static void promise35NoSuchOneOrNotOpen() {
        on.refusedEach("blocks(..)", States.ENDED, (x, t) -> x.blocks(t), 2, States.noTxns());
        on.refusedEach("blocks()", States.ENDED, RowPruner::blocks, 4, 1, 2, 3);
    }

    private static void promise35NoneAndOne() {
        on.tells("none", States.HELD, x -> x.blocks(2), 0);
        on.tells("one", States.WAITING, x -> x.blocks(2), 1);
        on.tells("none WAITS for one that WAITS", States.WAITING, x -> x.blocks(4), 0);
    }

    private static void promise35ByOthersThatWaitToo() {
        on.tells("2", ROW, x -> x.blocks(2), 0);
        on.tells("3", ROW, x -> x.blocks(3), 1);
        on.tells("4", ROW, x -> x.blocks(4), 2);
        on.tells("5", ROW, x -> x.blocks(5), 3);
        on.tells("6", ROW, x -> x.blocks(6), 0);
        Cases.Run more = Cases.then(ROW, x -> x.await(6, 1));
        on.tells("two for 3", more, x -> x.blocks(3), 2);
        on.tells("four for 5", more, x -> x.blocks(5), 4);
        on.tells("cut", Cases.then(more, x -> x.abort(3)), x -> x.blocks(5), 1);
    }

    private static void promise35TheMost() {
        Cases.Run run = x -> {
            Due.load(x, "row 1 1 1;" + "begin;".repeat(59) + "delete 2 0;");
            for (int t = 3; t <= 60; t++) x.await(t, 0);
        };
        on.good("58", run, x -> x.blocks(2), 58);
    }

    // ---- promise 36: holder

    private static void promise36NoneIsOpen() {
        on.refused("at first", Cases.NEW, RowPruner::holder, 5);
        on.refused("all ended", Cases.text("row 1 1 1;begin;begin;commit 2;abort 3;"), RowPruner::holder, 5);
        on.tells("one", Cases.text("begin;begin;commit 2;"), RowPruner::holder, 3);
    }

    private static void promise36OfSeveralTheFirst() {
        on.tells("three of the same LOW", Cases.text("begin;begin;begin;"), RowPruner::holder, 2);
        on.tells("two of the same LOW", Cases.text("begin;begin;begin;commit 2;"), RowPruner::holder, 3);
    }

    private static void promise36NotTheFirstThatIsOpen() {
        // 5 noted 3 and 4, 4 noted 3; 6 noted 5.
        Cases.Run run = Cases.text("begin;commit 2;begin;begin;begin;commit 3;commit 4;begin;");
        on.tells("5", run, RowPruner::holder, 5);
        on.tells("the last one", Cases.then(run, x -> x.commit(5)), RowPruner::holder, 6);
    }

    private static void promise36TheLastOf60() {
        Cases.Run run = x -> {
            for (int t = 2; t <= 60; t++) x.begin();
            for (int t = 2; t < 60; t++) x.commit(t);
        };
        on.tells("60", run, RowPruner::holder, 60);
    }

    // ---- promise 37: holds

    private static void promise37NoSuchOneOrNotOpen() {
        on.refusedEach("holds(..)", States.ENDED, (x, t) -> x.holds(t), 2, States.noTxns());
        on.refusedEach("holds()", States.ENDED, RowPruner::holds, 4, 1, 2, 3);
    }

    private static void promise37None() {
        on.tells("nothing is ended", Cases.text("row 1 1 1;begin;"), x -> x.holds(2), 0);
        on.tells("another one holds it, too", Cases.text("row 1 1 7;begin;begin;begin;delete 2 0;commit 2;"), x -> x.holds(3), 0);
        on.tells("what is DEAD already is not more", Cases.text("row 1 1 7;begin;delete 2 0;commit 2;begin;"), x -> x.holds(3), 0);
    }

    private static void promise37WhatItHoldsAndWhatItEnded() {
        on.tells("DYING ones", Cases.text("row 1 1 7;begin;begin;delete 2 0;commit 2;"), x -> x.holds(3), 7);
        on.tells("its own", Cases.text("row 1 1 7;begin;delete 2 0;"), x -> x.holds(2), 7);
        on.tells("both", Cases.text("row 1 1 7;row 1 1 8;begin;begin;delete 2 0;commit 2;delete 3 1;"), x -> x.holds(3), 15);
        on.tells("those it made and ended", Cases.text("begin;insert 2 1 1 7;delete 2 0;"), x -> x.holds(2), 7);
        on.tells("those that it updated", Cases.text("row 1 1 7;begin;update 2 0 1 1 8;"), x -> x.holds(2), 7);
    }

    private static void promise37InAllPages() {
        on.tells("six", Cases.text("units 32;" + "row 1 1 20;".repeat(6) + "begin;begin;" + "delete 2 0;delete 2 1;delete 2 2;delete 2 3;delete 2 4;delete 2 5;"
            + "commit 2;"), x -> x.holds(3), 120);
    }

    /** It were DONE, not GONE: what it made lives. */
    private static void promise37OneThatMadeSome() {
        on.tells("what it made is not DEAD", Cases.text("begin;insert 2 1 1 7;"), x -> x.holds(2), 0);
    }

    private static void promise37OneThatWaits() {
        on.tells("holds(4)", Cases.then(States.WAITING, x -> x.commit(3)), x -> x.holds(4), 0);
        Cases.Run run = Cases.then(Cases.text("row 1 1 7;row 2 2 8;begin;begin;delete 3 0;delete 2 1;"), x -> x.await(3, 1));
        on.tells("2 is OPEN", run, x -> x.holds(3), 0);
        on.tells("2", run, x -> x.holds(2), 0);
    }

    // ---- promise 38: gains

    /** Of 2: rows 0, 1, 2 are deleted; row 3 is updated; BATCH 2, AGE 1. */
    private static final String GAINS = "batch 2;age 1;row 1 1 3;row 2 2 4;row 3 3 5;row 4 4 6;begin;delete 2 0;delete 2 1;delete 2 2;update 2 3 4 5 7;";

    private static void gains(String what, Cases.Run run, int... want) {
        on.tellsEach(what, run, RowPruner::gains, want);
    }

    private static void promise38WhatFrom0To5() {
        for (int w : new int[] {Integer.MIN_VALUE, -1, 6, Integer.MAX_VALUE}) on.refused("gains(" + w + ")", States.BUSY, x -> x.gains(w), 1);
    }

    private static void promise38Nothing() {
        gains("a new object", Cases.NEW, 0, 0, 0, 0, 0, 0);
        gains("one that is OPEN holds all", Cases.text(GAINS), 0, 0, 0, 0, 0, 0);
        gains("behind it", Cases.text(GAINS + "commit 2;vacuum;"), 0, 0, 0, 0, 0, 0);
    }

    private static void promise38WhatVacuumDoes() {
        gains("all", Cases.text(GAINS + "commit 2;"), 18, 4, 3, 2, 3, 0);
        gains("what was PRUNED has gone already", Cases.text(GAINS + "commit 2;prune 0;"), 0, 0, 3, 2, 3, 0);
        gains("one that is GONE", Cases.text(GAINS + "abort 2;"), 7, 1, 0, 0, 0, 4);
    }

    private static void promise38AgeAndBatch() {
        gains("BATCH 1", Cases.then(Cases.text(GAINS + "commit 2;"), x -> x.set(0, 1)), 18, 4, 3, 3, 3, 0);
        gains("BATCH 3", Cases.then(Cases.text(GAINS + "commit 2;"), x -> x.set(0, 3)), 18, 4, 3, 1, 3, 0);
        gains("AGE 0", Cases.then(Cases.text(GAINS + "commit 2;"), x -> x.set(1, 0)), 18, 4, 3, 2, 3, 1);
        gains("AGE 1, one more", Cases.text(GAINS + "commit 2;begin;commit 3;"), 18, 4, 3, 2, 3, 1);
    }

    private static void promise38FrozenAlready() {
        gains("not again", Cases.text("age 0;row 1 1 1;vacuum;"), 0, 0, 0, 0, 0, 0);
    }

    // ---- promise 39: best

    private static void promise39NoneWouldBe() {
        on.refused("none at all", Cases.NEW, RowPruner::best, 5);
        on.refused("none is DEAD", Cases.text("row 1 1 1;begin;delete 2 0;"), RowPruner::best, 5);
        on.refused("STUBS alone", Cases.text("row 1 1 1;begin;delete 2 0;commit 2;prune 0;"), RowPruner::best, 5);
        on.tells("one unit", Cases.text("row 1 1 1;begin;delete 2 0;commit 2;"), RowPruner::best, 0);
    }

    private static void promise39MostAndOfSeveralTheFirst() {
        String rows = "units 32;row 1 1 20;row 2 1 20;row 3 1 20;row 4 1 20;row 5 1 20;row 6 1 19;begin;";
        on.tells("page 5 alone", Cases.text(rows + "delete 2 5;commit 2;"), RowPruner::best, 5);
        on.tells("as much: the first", Cases.text(rows + "delete 2 3;delete 2 1;commit 2;"), RowPruner::best, 1);
        on.tells("less in page 5", Cases.text(rows + "delete 2 5;delete 2 4;commit 2;"), RowPruner::best, 4);
        on.tells("one more in page 5", Cases.text(rows + "delete 2 5;delete 2 4;insert 2 1 1 12;insert 2 1 1 12;insert 2 1 1 12;insert 2 1 1 12;insert 2 1 1 12;"
            + "insert 2 1 1 2;delete 2 11;commit 2;"), RowPruner::best, 5);
    }

    private static void promise39FreeAlreadyIsNotByIt() {
        on.tells("page 1, though page 0 has more FREE", Cases.text("units 32;row 1 1 20;row 2 1 20;begin;delete 2 0;commit 2;prune 0;begin;delete 3 1;commit 3;"),
            RowPruner::best, 1);
        on.tells("page 1, though page 0 would have more FREE", Cases.text("units 32;row 1 1 20;row 2 1 12;row 3 1 20;row 4 1 5;begin;delete 2 0;delete 2 1;"
            + "commit 2;prune 0;begin;insert 3 5 1 1;delete 3 4;delete 3 3;commit 3;"), RowPruner::best, 1);
    }

    // ---- promise 40: reads

    private static void promise40KeyFrom0To99() {
        Cases.Run run = Cases.text("row 0 1 1;row 99 1 1;begin;");
        on.tells("0", run, x -> x.reads(2, 0), 1);
        on.tells("99", run, x -> x.reads(2, 99), 1);
        for (int key : new int[] {Integer.MIN_VALUE, -1, 100, Integer.MAX_VALUE}) on.refused("reads(2, " + key + ")", run, x -> x.reads(2, key), 1);
    }

    private static void promise40NoSuchOneOrNotOpen() {
        on.refusedEach("reads(.., 1)", States.ENDED, (x, t) -> x.reads(t, 1), 2, States.noTxns());
        on.refusedEach("reads()", States.ENDED, (x, t) -> x.reads(t, 1), 4, 1, 2, 3);
    }

    private static void promise40WhatComesFirst() {
        on.refused("1, 2", States.ENDED, x -> x.reads(9, 100), 1);
        on.refused("1, 4", States.ENDED, x -> x.reads(2, -1), 1);
    }

    private static void promise40OneThatWaits() {
        on.tells("reads(4, 2)", States.WAITING, x -> x.reads(4, 2), 1);
    }

    private static void promise40NoneAndAll() {
        on.tells("none of that KEY", Cases.text("row 1 1 1;begin;"), x -> x.reads(2, 2), 0);
        on.tells("forty", Cases.text("row 1 1 1;".repeat(40) + "begin;"), x -> x.reads(2, 1), 40);
        on.tells("though it sees none", Cases.text("begin;begin;insert 3 1 1 1;"), x -> x.reads(2, 1), 1);
    }

    private static void promise40NotOfAClearPage() {
        String text = "units 32;row 1 1 20;row 1 1 20;row 1 1 1;vacuum;begin;";
        on.tells("CLEAR", Cases.text(text), x -> x.reads(2, 1), 0);
        on.tells("page 0 is not", Cases.text(text + "delete 2 0;"), x -> x.reads(2, 1), 2);
        on.tells("page 1 is not", Cases.text(text + "delete 2 1;"), x -> x.reads(2, 1), 1);
    }

    private static void promise40NotOfKilledOnes() {
        String text = "begin;insert 2 1 1 1;insert 2 1 1 1;abort 2;begin;insert 3 1 1 1;";
        on.tells("DEAD ones that are not KILLED", Cases.text(text), x -> x.reads(3, 1), 3);
        on.tells("KILLED ones", Cases.text(text + "look 3 1;"), x -> x.reads(3, 1), 1);
        on.tells("a STUB that is not KILLED", Cases.text(text + "prune 0;"), x -> x.reads(3, 1), 3);
    }

    private static void promise40AsLookCounts() {
        for (int key = 0; key < 4; key++) {
            int which = key;
            RowPruner x = Cases.after(States.BUSY);
            int was = x.counts(7);
            x.look(8, key);
            on.tells("reads(8, " + key + ")", States.BUSY, y -> y.reads(8, which), x.counts(7) - was);
        }
    }

    // ---- promise 41: most

    private static void promise41PagesFrom0To5() {
        for (int p : new int[] {Integer.MIN_VALUE, -1, 6, Integer.MAX_VALUE}) on.refused("most(" + p + ")", States.BUSY, x -> x.most(p), 2);
        Cases.Run run = Cases.text("units 32;row 1 1 20;row 1 1 20;row 1 1 20;row 1 1 20;row 1 1 20;row 1 1 19;");
        on.tells("most(0)", run, x -> x.most(0), 12);
        on.tells("most(5)", run, x -> x.most(5), 13);
    }

    private static void promise41AllOrNone() {
        on.tells("all", Cases.text("units 96;"), x -> x.most(0), 96);
        on.tells("none", Cases.text("units 32;row 1 1 20;row 1 1 12;begin;"), x -> x.most(0), 0);
        on.tells("all that is there would be DEAD", Cases.text("units 32;row 1 1 20;row 1 1 12;begin;delete 2 0;delete 2 1;"), x -> x.most(0), 32);
    }

    private static void promise41TheyWereDoneNotGone() {
        on.tells("what they made stays", Cases.text("begin;insert 2 1 1 4;"), x -> x.most(0), 60);
        on.tells("what they ended goes", Cases.text("row 1 1 9;begin;delete 2 0;"), x -> x.most(0), 64);
        on.tells("an updated one", Cases.text("row 1 1 9;begin;update 2 0 1 1 4;"), x -> x.most(0), 60);
        on.tells("one that is GONE", Cases.text("begin;insert 2 1 1 4;abort 2;"), x -> x.most(0), 64);
    }

    private static void promise41AllThatAreOpen() {
        Cases.Run run = Cases.text("row 1 1 9;row 2 2 8;row 3 3 7;begin;begin;begin;delete 2 0;delete 3 1;delete 4 2;");
        on.tells("three", run, x -> x.most(0), 64);
        on.tells("two, and one is GONE", Cases.then(run, x -> x.abort(3)), x -> x.most(0), 56);
        on.tells("those that WAIT, too", Cases.then(run, x -> x.await(4, 0)), x -> x.most(0), 64);
    }

    private static void promise41WithoutAnOpenOneAsVacuum() {
        Cases.Run run = Cases.text("row 1 1 9;row 2 2 8;begin;delete 2 0;commit 2;");
        on.tells("as page() tells then", run, x -> x.most(0), Cases.after(Cases.then(run, RowPruner::vacuum)).page(0, 1));
    }
}
