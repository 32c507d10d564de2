import java.util.Arrays;

/** The boundary cases of promises 25 to 32, each in a case of its own: pruning, looking, laying anew, marks. */
final class BoundsKeepTest {
    private static final Cases on = new Cases(BoundsKeepTest.class, 25, 32);
    private static final Due due = on.due;
    private static final int NONE = RowPruner.NONE;
    private static final int[] FAR = {Integer.MIN_VALUE, -1000, Integer.MAX_VALUE};
    /** Row 0 in slots 0, 1, 2 one behind the other, by 1, 2, 4; 3 began ahead of 4 and holds the HORIZON at 3. */
    private static final String THREE = "row 1 1 1;begin;update 2 0 1 2 2;commit 2;begin;begin;update 4 0 1 3 3;commit 4;";

    public static void main(String[] args) {
        on.runAll();
    }

    // ---- promise 25: prune

    private static void promise25PagesFrom0To5() {
        for (int p : new int[] {Integer.MIN_VALUE, -1, 6, Integer.MAX_VALUE}) on.refused("prune(" + p + ")", States.BUSY, x -> x.prune(p), 2);
        String six = "units 32;" + "row 1 1 20;".repeat(6) + "begin;delete 2 0;delete 2 5;commit 2;";
        on.good("prune(0)", Cases.text(six), x -> x.prune(0), 1);
        on.good("prune(5)", Cases.text(six), x -> x.prune(5), 1);
        on.good("prune(1)", Cases.text(six), x -> x.prune(1), 0);
    }

    private static void promise25NoneIsDead() {
        on.tells("no SLOTS", Cases.NEW, x -> x.prune(0), 0);
        on.tells("no DEAD ones", Cases.text("row 1 1 1;begin;delete 2 0;"), x -> x.prune(0), 0);
        on.tells("DYING ones", Cases.text("row 1 1 1;begin;begin;delete 2 0;commit 2;"), x -> x.prune(0), 0);
        on.tells("STUBS alone", Cases.text("begin;insert 2 1 1 1;abort 2;prune 0;"), x -> x.prune(0), 0);
        on.tells("a CLEAR PAGE stays so", Cases.text("row 1 1 1;vacuum;"), x -> x.prune(0), 0);
    }

    private static void promise25TheFirstOnesThatAreDeadGo() {
        Cases.Run run = Cases.text(THREE);
        on.good("the first, not the DYING one", run, x -> x.prune(0), 1);
        Cases.Run one = Cases.then(run, x -> x.prune(0));
        on.good("TURNED", one, x -> x.slot(0, 0, 0), 2);
        on.good("to the first one left", one, x -> x.slot(0, 0, 1), 1);
        on.good("that is FULL", one, x -> x.slot(0, 1, 0), 1);
        Cases.Run two = Cases.then(run, x -> x.commit(3));
        on.good("two, one behind the other", two, x -> x.prune(0), 2);
        on.good("TURNED to the last", Cases.then(two, x -> x.prune(0)), x -> x.slot(0, 0, 1), 2);
        on.good("UNUSED", Cases.then(two, x -> x.prune(0)), x -> x.slot(0, 1, 0), 0);
        on.good("anew", Cases.then(one, x -> x.commit(3), x -> x.prune(0)), x -> x.slot(0, 0, 1), 2);
    }

    private static void promise25AllOfTheChainGo() {
        Cases.Run run = Cases.text(THREE + "commit 3;begin;delete 5 0;commit 5;");
        on.good("three", run, x -> x.prune(0), 3);
        Cases.Run gone = Cases.then(run, x -> x.prune(0));
        on.good("a STUB", gone, x -> x.slot(0, 0, 0), 3);
        on.good("TURNED to none", gone, x -> x.slot(0, 0, 1), NONE);
        on.good("UNUSED", gone, x -> x.slot(0, 1, 0), 0);
        on.good("UNUSED", gone, x -> x.slot(0, 2, 0), 0);
        on.good("they are SLOTS still", gone, x -> x.page(0, 0), 3);
        on.good("a TURNED one, too", Cases.text(THREE + "commit 3;prune 0;begin;delete 5 0;commit 5;"), x -> x.prune(0), 1);
        on.good("is a STUB", Cases.text(THREE + "commit 3;prune 0;begin;delete 5 0;commit 5;prune 0;"), x -> x.slot(0, 0, 0), 3);
    }

    private static void promise25TenOfAChain() {
        String ten = "row 1 1 1;begin;" + "update 2 0 1 1 1;".repeat(9) + "commit 2;";
        on.good("nine of ten", Cases.text(ten), x -> x.prune(0), 9);
        on.good("TURNED to the last SLOT", Cases.text(ten + "prune 0;"), x -> x.slot(0, 0, 1), 9);
        on.good("all ten", Cases.text(ten + "begin;delete 3 0;commit 3;"), x -> x.prune(0), 10);
    }

    /** A LIGHT one goes by its own only where its MAKER is GONE. */
    private static void promise25LightOnesOfOneThatIsGone() {
        on.good("two", Cases.text("row 1 1 1;begin;update 2 0 1 1 1;update 2 0 1 1 1;abort 2;"), x -> x.prune(0), 2);
        on.good("the head stays", Cases.text("row 1 1 1;begin;update 2 0 1 1 1;abort 2;prune 0;"), x -> x.slot(0, 0, 0), 1);
        on.good("UNUSED", Cases.text("row 1 1 1;begin;update 2 0 1 1 1;abort 2;prune 0;"), x -> x.slot(0, 1, 0), 0);
        on.good("with the head", Cases.text("begin;insert 2 1 1 1;update 2 0 1 1 1;abort 2;"), x -> x.prune(0), 2);
        on.good("the head is a STUB", Cases.text("begin;insert 2 1 1 1;update 2 0 1 1 1;abort 2;prune 0;"), x -> x.slot(0, 0, 0), 3);
        on.tells("its MAKER is OPEN", Cases.text("row 1 1 1;begin;update 2 0 1 1 1;"), x -> x.prune(0), 0);
    }

    private static void promise25ALightOneInTheFirstSlotAndInTheLast() {
        String first = "row 1 1 1;row 2 2 2;begin;delete 2 0;commit 2;vacuum;begin;update 3 1 2 3 3;abort 3;";
        on.good("LIGHT in slot 0", Cases.text(first), x -> x.version(0, 0, 8), 1);
        on.good("it goes", Cases.text(first), x -> x.prune(0), 1);
        on.good("UNUSED", Cases.text(first + "prune 0;"), x -> x.slot(0, 0, 0), 0);
        String last = "row 1 1 1;".repeat(9) + "begin;update 2 0 1 1 1;abort 2;";
        on.good("LIGHT in slot 9", Cases.text(last), x -> x.version(0, 9, 8), 1);
        on.good("it goes", Cases.text(last), x -> x.prune(0), 1);
    }

    private static void promise25TheFirstSlotAndTheLast() {
        Cases.Run run = Cases.text("row 1 1 1;".repeat(10) + "begin;delete 2 0;delete 2 9;commit 2;");
        on.good("two", run, x -> x.prune(0), 2);
        on.good("a STUB", Cases.then(run, x -> x.prune(0)), x -> x.slot(0, 0, 0), 3);
        on.good("a STUB", Cases.then(run, x -> x.prune(0)), x -> x.slot(0, 9, 0), 3);
    }

    private static void promise25OneThatIsNotLightIsAStubOfItsOwn() {
        Cases.Run run = Cases.text("row 1 1 1;begin;update 2 0 2 2 2;update 2 0 3 3 3;commit 2;");
        on.good("two", run, x -> x.prune(0), 2);
        Cases.Run gone = Cases.then(run, x -> x.prune(0));
        on.good("a STUB", gone, x -> x.slot(0, 0, 0), 3);
        on.good("a STUB", gone, x -> x.slot(0, 1, 0), 3);
        on.good("FULL", gone, x -> x.slot(0, 2, 0), 1);
    }

    private static void promise25EntriesStay() {
        Cases.Run run = Cases.text("row 1 1 1;begin;delete 2 0;commit 2;prune 0;");
        on.good("ENTRIES", run, x -> x.many(6), 1);
        on.good("not KILLED", run, x -> x.entry(0, 3), 0);
        on.good("none went", run, x -> x.counts(4), 0);
    }

    private static void promise25FrozenOnesGoByTheirEnder() {
        String frozen = "age 0;row 1 1 1;vacuum;begin;delete 2 0;";
        on.tells("OPEN", Cases.text(frozen), x -> x.prune(0), 0);
        on.tells("GONE", Cases.text(frozen + "abort 2;"), x -> x.prune(0), 0);
        on.good("DONE", Cases.text(frozen + "commit 2;"), x -> x.prune(0), 1);
    }

    // ---- promise 26: vacuum

    /** Eight rows that are deleted, and a BATCH; none of them is pruned yet. */
    private static String eight(int batch) {
        StringBuilder text = new StringBuilder("batch " + batch + ";" + "row 1 1 1;".repeat(8) + "begin;");
        for (int row = 0; row < 8; row++) text.append("delete 2 ").append(row).append(';');
        return text + "commit 2;";
    }

    private static void promise26BatchByBatch() {
        int[] passes = {0, 8, 4, 3, 2, 2, 2, 2, 1};
        for (int batch = 1; batch <= 8; batch++) {
            Cases.Run run = Cases.text(eight(batch));
            on.good("BATCH " + batch, run, RowPruner::vacuum, 8);
            on.good("PASSES", Cases.then(run, RowPruner::vacuum), x -> x.counts(3), passes[batch]);
            on.good("the last one", Cases.then(run, RowPruner::vacuum), x -> x.event(0, 1), 8 - (passes[batch] - 1) * batch);
            on.good("ENTRIES", Cases.then(run, RowPruner::vacuum), x -> x.counts(4), 8);
        }
    }

    private static void promise26NoStubNoPass() {
        Cases.Run run = Cases.text("row 1 1 1;");
        on.good("none", run, RowPruner::vacuum, 0);
        on.good("PASSES", Cases.then(run, RowPruner::vacuum), x -> x.counts(3), 0);
        on.refused("no EVENT", Cases.then(run, RowPruner::vacuum), x -> x.event(0, 0), 5);
        on.good("of none at all", Cases.NEW, RowPruner::vacuum, 0);
    }

    private static void promise26ABatchOverPages() {
        Cases.Run run = Cases.text("units 32;batch 2;" + "row 1 1 20;".repeat(3) + "begin;delete 2 0;delete 2 1;delete 2 2;commit 2;");
        on.good("three", run, RowPruner::vacuum, 3);
        Cases.Run gone = Cases.then(run, RowPruner::vacuum);
        on.good("two PASSES", gone, x -> x.counts(3), 2);
        on.good("the first of two ENTRIES", gone, x -> x.event(1, 1), 2);
        on.good("the last of one", gone, x -> x.event(0, 1), 1);
    }

    private static void promise26StubsThatWereThereAlready() {
        on.good("one of prune(), one of vacuum()", Cases.text("row 1 1 1;row 1 1 1;begin;delete 2 0;commit 2;prune 0;begin;delete 3 1;commit 3;"),
            RowPruner::vacuum, 2);
        on.good("not again", Cases.text(eight(3) + "vacuum;"), RowPruner::vacuum, 0);
    }

    private static void promise26KilledEntriesGoWithTheRest() {
        Cases.Run run = Cases.text("begin;insert 2 1 1 1;abort 2;begin;look 3 1;vacuum;");
        on.good("ENTRIES", run, x -> x.many(6), 0);
        on.good("ENTRIES that went", run, x -> x.counts(4), 1);
    }

    private static void promise26UnusedSlotsBehindAllOthers() {
        String rows = "row 1 1 1;row 1 1 1;row 1 1 1;row 1 1 1;begin;";
        on.good("the last one", Cases.text(rows + "delete 2 3;commit 2;vacuum;"), x -> x.page(0, 0), 3);
        on.good("the last two", Cases.text(rows + "delete 2 2;delete 2 3;commit 2;vacuum;"), x -> x.page(0, 0), 2);
        on.good("those ahead stay", Cases.text(rows + "delete 2 0;delete 2 2;commit 2;vacuum;"), x -> x.page(0, 0), 4);
        on.good("UNUSED", Cases.text(rows + "delete 2 0;delete 2 2;commit 2;vacuum;"), x -> x.page(0, 3), 2);
        on.good("all", Cases.text(rows + "delete 2 0;delete 2 1;delete 2 2;delete 2 3;commit 2;vacuum;"), x -> x.page(0, 0), 0);
        String ten = "row 1 1 1;".repeat(10) + "begin;";
        on.good("the tenth", Cases.text(ten + "delete 2 9;commit 2;vacuum;"), x -> x.page(0, 0), 9);
        on.good("the ninth and the tenth", Cases.text(ten + "delete 2 8;delete 2 9;commit 2;vacuum;"), x -> x.page(0, 0), 8);
        on.good("the ninth alone", Cases.text(ten + "delete 2 8;commit 2;vacuum;"), x -> x.page(0, 0), 10);
        on.good("a TURNED one is no UNUSED one", Cases.text("row 1 1 1;begin;update 2 0 1 1 1;commit 2;vacuum;"), x -> x.page(0, 0), 2);
    }

    private static void promise26UnusedOnesThatWereThereAlready() {
        Cases.Run run = Cases.text("row 1 1 1;begin;update 2 0 1 1 1;abort 2;prune 0;");
        on.good("a SLOT still", run, x -> x.page(0, 0), 2);
        on.good("no more", Cases.then(run, RowPruner::vacuum), x -> x.page(0, 0), 1);
    }

    private static void promise26AllPagesArePruned() {
        String rows = "units 32;" + "row 1 1 20;".repeat(6) + "begin;delete 2 0;delete 2 5;commit 2;vacuum;";
        on.good("page 0", Cases.text(rows), x -> x.page(0, 0), 0);
        on.good("page 5", Cases.text(rows), x -> x.page(5, 0), 0);
        on.good("page 4", Cases.text(rows), x -> x.page(4, 0), 1);
        on.good("the last PRUNING ahead of the PASS", Cases.text(rows), x -> x.event(1, 1), 5);
    }

    /** FROZEN if MAKER is less than HORIZON by more than AGE. */
    private static void promise26MoreThanAge() {
        // Row 0 of 1; HORIZON 2: by 1.
        on.good("AGE 0", Cases.text("age 0;row 1 1 1;vacuum;"), x -> x.many(10), 1);
        on.good("AGE 1", Cases.text("age 1;row 1 1 1;vacuum;"), x -> x.many(10), 0);
        on.good("AGE 1, HORIZON 3", Cases.text("age 1;row 1 1 1;begin;commit 2;vacuum;"), x -> x.many(10), 1);
        on.good("AGE 2, HORIZON 3", Cases.text("age 2;row 1 1 1;begin;commit 2;vacuum;"), x -> x.many(10), 0);
        String five = "begin;commit 2;begin;commit 3;begin;commit 4;begin;commit 5;";
        on.good("AGE 5 without, HORIZON 6", Cases.text("row 1 1 1;" + five + "vacuum;"), x -> x.many(10), 0);
        on.good("AGE 5 without, HORIZON 7", Cases.text("row 1 1 1;" + five + "begin;vacuum;commit 6;vacuum;"), x -> x.many(10), 1);
        on.good("HORIZON 6 by one that is OPEN", Cases.text("row 1 1 1;" + five + "begin;vacuum;"), x -> x.many(10), 0);
    }

    private static void promise26AgeThirty() {
        Cases.Run run = x -> {
            Cases.text("age 30;row 1 1 1;").on(x);
            for (int t = 2; t <= 30; t++) {
                x.begin();
                x.commit(t);
            }
            x.vacuum();
        };
        on.good("HORIZON 31", run, x -> x.many(5), 31);
        on.good("by 30", run, x -> x.many(10), 0);
        Cases.Run more = Cases.then(run, RowPruner::begin, x -> x.commit(31), RowPruner::vacuum);
        on.good("by 31", more, x -> x.many(10), 1);
    }

    private static void promise26MakersThatAreNotDone() {
        on.good("OPEN", Cases.text("age 0;begin;insert 2 1 1 1;vacuum;"), x -> x.many(10), 0);
        on.good("DONE, but not less than HORIZON", Cases.text("age 0;begin;begin;insert 3 1 1 1;commit 3;vacuum;"), x -> x.many(10), 0);
        on.good("DONE, and HORIZON", Cases.text("age 0;begin;begin;insert 2 1 1 1;commit 2;vacuum;"), x -> x.many(10), 0);
        on.good("DONE", Cases.text("age 0;begin;insert 2 1 1 1;commit 2;vacuum;"), x -> x.many(10), 1);
    }

    private static void promise26VersionsWithAnEnderAreFrozenToo() {
        on.good("OPEN", Cases.text("age 0;row 1 1 1;begin;delete 2 0;vacuum;"), x -> x.version(0, 0, 9), 1);
        on.good("DYING", Cases.text("age 0;row 1 1 1;begin;begin;delete 2 0;commit 2;vacuum;"), x -> x.version(0, 0, 9), 1);
        on.good("behind a TURNED one", Cases.text("age 0;row 1 1 1;begin;update 2 0 1 1 1;commit 2;vacuum;"), x -> x.version(0, 1, 9), 1);
    }

    private static void promise26FrozenPageByPageSlotBySlot() {
        RowPruner x = Due.loaded("units 32;age 0;row 1 1 20;row 1 1 20;row 1 1 12;vacuum;");
        // Row 2 is in page 0's slot 1, row 1 in page 1.
        int[] rows = {1, 2, 0};
        for (int i = 0; i < 3; i++) {
            due.good("kind", x, x.event(i, 0), 5);
            due.good("ROW", x, x.event(i, 1), rows[i]);
        }
    }

    /** The PAGES are PRUNED first, then come the PASSES, and what is FROZEN comes last. */
    private static void promise26WhatComesFirst() {
        RowPruner x = Due.loaded("units 32;batch 1;age 0;row 1 1 20;row 2 1 20;row 3 1 20;begin;delete 2 0;delete 2 2;commit 2;vacuum;");
        int[][] events = {{5, 1}, {4, 1}, {4, 1}, {0, 2}, {1, 20}, {0, 0}, {1, 0}, {6, 2}};
        for (int i = 0; i < events.length; i++) {
            due.good("kind of event " + i, x, x.event(i, 0), events[i][0]);
            due.good("number of event " + i, x, x.event(i, 1), events[i][1]);
        }
        due.refused("no more", x, x.event(8, 0), 5);
    }

    private static void clear(String what, String text, int want) {
        on.good(what, Cases.text(text), x -> x.page(0, 4), want);
    }

    private static void promise26ClearIfAllAreUnusedOrFull() {
        clear("FULL", "row 1 1 1;vacuum;", 1);
        clear("UNUSED ahead of FULL", "row 1 1 1;row 1 1 1;begin;delete 2 0;commit 2;vacuum;", 1);
        clear("no SLOTS", "begin;insert 2 1 1 1;abort 2;vacuum;", 1);
        clear("TURNED", "row 1 1 1;begin;update 2 0 1 1 1;commit 2;vacuum;", 0);
        clear("TURNED, and FROZEN", "age 0;row 1 1 1;begin;update 2 0 1 1 1;commit 2;vacuum;", 0);
    }

    private static void promise26ClearByTheMaker() {
        clear("OPEN", "begin;insert 2 1 1 1;vacuum;", 0);
        clear("DONE, one less than HORIZON", "begin;insert 2 1 1 1;commit 2;vacuum;", 1);
        clear("DONE, and HORIZON", "begin;begin;insert 2 1 1 1;commit 2;vacuum;", 0);
        clear("DONE, more than HORIZON", "begin;begin;insert 3 1 1 1;commit 3;vacuum;", 0);
        clear("FROZEN", "age 0;row 1 1 1;vacuum;begin;vacuum;", 1);
    }

    private static void promise26ClearByTheEnder() {
        clear("OPEN", "row 1 1 1;begin;delete 2 0;vacuum;", 0);
        clear("DYING", "row 1 1 1;begin;begin;delete 2 0;commit 2;vacuum;", 0);
        clear("GONE", "row 1 1 1;begin;delete 2 0;abort 2;vacuum;", 1);
        clear("FROZEN with one that is OPEN", "age 0;row 1 1 1;vacuum;begin;delete 2 0;vacuum;", 0);
        clear("FROZEN with one that is DONE", "age 0;row 1 1 1;vacuum;begin;begin;delete 2 0;commit 2;vacuum;", 0);
        clear("FROZEN with one that is GONE", "age 0;row 1 1 1;vacuum;begin;delete 2 0;abort 2;vacuum;", 1);
        clear("in another PAGE", "units 32;row 1 1 20;row 2 1 20;begin;delete 2 1;vacuum;", 1);
    }

    private static void promise26ClearTillAVersionComes() {
        String two = "units 32;row 1 1 20;row 2 1 20;vacuum;begin;";
        clear("begin()", two, 1);
        clear("insert()", two + "insert 2 1 1 1;", 0);
        clear("insert() in another PAGE", two + "insert 2 1 1 12;insert 2 1 1 1;", 0);
        clear("update() from another PAGE", two + "update 2 1 2 1 12;", 1);
        clear("update() to this PAGE", two + "update 2 1 2 1 12;insert 2 1 1 1;", 0);
        on.good("the PAGE of another VERSION", Cases.text(two + "insert 2 1 1 1;"), x -> x.page(1, 4), 1);
        on.good("a PAGE without SLOTS", Cases.text(two + "insert 2 1 1 13;"), x -> x.page(2, 4), 0);
    }

    private static void promise26ClearTillAnotherEnder() {
        String two = "units 32;row 1 1 20;row 2 1 20;vacuum;begin;";
        clear("delete()", two + "delete 2 0;", 0);
        clear("delete(), abort()", two + "delete 2 0;abort 2;", 0);
        clear("update() that comes elsewhere", two + "update 2 0 1 1 20;", 0);
        on.good("there", Cases.text(two + "update 2 0 1 1 20;"), x -> x.page(2, 4), 0);
        on.good("in between", Cases.text(two + "update 2 0 1 1 20;"), x -> x.page(1, 4), 1);
        clear("one that is GONE, then another", "row 1 1 1;begin;delete 2 0;abort 2;vacuum;begin;delete 3 0;", 0);
    }

    private static void promise26ClearStaysByWhatIsAsked() {
        Cases.Run run = Cases.text("row 1 1 1;vacuum;begin;look 2 1;prune 0;commit 2;");
        on.good("look(), prune(), commit()", run, x -> x.page(0, 4), 1);
        on.good("load()", Cases.then(run, x -> x.load(0)), x -> x.page(0, 4), 0);
        on.good("repack()", Cases.then(run, RowPruner::repack), x -> x.page(0, 4), 0);
        on.good("repack() of a PAGE without SLOTS", Cases.then(run, RowPruner::repack), x -> x.page(5, 4), 0);
    }

    // ---- promise 27: look

    private static void promise27KeyFrom0To99() {
        Cases.Run run = Cases.text("row 0 1 1;row 99 1 1;begin;");
        on.good("0", run, x -> x.look(2, 0), 1);
        on.good("99", run, x -> x.look(2, 99), 1);
        on.refused("-1", run, x -> x.look(2, -1), 1);
        on.refused("100", run, x -> x.look(2, 100), 1);
        for (int key : FAR) on.refused("KEY " + key, run, x -> x.look(2, key), 1);
    }

    private static void promise27NoSuchOne() {
        Cases.Run run = Cases.text("row 1 1 1;begin;");
        for (int t : new int[] {Integer.MIN_VALUE, -1, 0, 3, 61, Integer.MAX_VALUE}) on.refused("look(" + t + ", 1)", run, x -> x.look(t, 1), 2);
    }

    private static void promise27NotOpen() {
        Cases.Run run = Cases.text("row 1 1 1;begin;begin;commit 2;abort 3;");
        on.refusedEach("look(.., 1)", run, (x, t) -> x.look(t, 1), 4, 1, 2, 3);
    }

    private static void promise27OneThatWaits() {
        Cases.Run run = Cases.then(Cases.text("row 1 1 1;row 2 2 2;begin;begin;delete 2 0;"), x -> x.await(3, 0));
        on.refused("look(3, 2)", run, x -> x.look(3, 2), 11);
        on.good("it waits no more", Cases.then(run, x -> x.commit(2)), x -> x.look(3, 2), 1);
        on.refused("1, 11", run, x -> x.look(3, 100), 1);
    }

    private static void promise27WhatComesFirst() {
        Cases.Run run = Cases.text("row 1 1 1;");
        on.refused("1, 2", run, x -> x.look(9, 100), 1);
        on.refused("1, 4", run, x -> x.look(1, -1), 1);
        on.refused("2, 4", run, x -> x.look(2, 1), 2);
    }

    private static void promise27NoneAndForty() {
        on.good("no ENTRY at all", Cases.text("begin;"), x -> x.look(2, 1), 0);
        on.good("none of that KEY", Cases.text("row 1 1 1;begin;"), x -> x.look(2, 2), 0);
        on.good("READS", Cases.text("row 1 1 1;begin;look 2 2;"), x -> x.counts(7), 0);
        on.good("forty", Cases.text("row 1 1 1;".repeat(40) + "begin;"), x -> x.look(2, 1), 40);
    }

    private static void promise27SixtyEntries() {
        Cases.Run run = Cases.text("units 96;" + "row 1 1 1;".repeat(30) + "begin;begin;");
        Cases.Run full = Cases.then(run, x -> {
            for (int row = 0; row < 30; row++) x.update(2, row, 2, 2, 1);
            for (int row = 0; row < 30; row++) x.look(2, 1);
            return 0;
        });
        on.good("none of the old KEY", full, x -> x.look(2, 1), 0);
        on.good("all of the new KEY", full, x -> x.look(2, 2), 30);
        on.good("all of the old KEY by another one", full, x -> x.look(3, 1), 30);
        on.good("READS", full, x -> x.counts(7), 900);
    }

    private static void promise27TheFirstThatItSeesOfAChain() {
        Cases.Run run = Cases.text(THREE + "begin;");
        // 3 began behind 2; 5 began behind 4.
        on.good("3", run, x -> x.look(3, 1), 1);
        on.good("the second", Cases.then(run, x -> x.look(3, 1)), x -> x.found(0, 1), 2);
        on.good("one ahead of it", Cases.then(run, x -> x.look(3, 1)), x -> x.found(0, 4), 1);
        on.good("the third", Cases.then(run, x -> x.look(5, 1)), x -> x.found(0, 1), 3);
        on.good("two ahead of it", Cases.then(run, x -> x.look(5, 1)), x -> x.found(0, 4), 2);
        on.good("of a TURNED one none is ahead", Cases.text(THREE + "commit 3;prune 0;begin;look 5 1;"), x -> x.found(0, 4), 0);
    }

    private static void promise27ChainOfTen() {
        Cases.Run run = Cases.text("row 1 1 1;begin;" + "update 2 0 1 1 1;".repeat(9) + "look 2 1;begin;look 3 1;");
        on.good("the first", run, x -> x.found(0, 3), 0);
        on.good("nine ahead", Cases.then(run, x -> x.look(2, 1)), x -> x.found(0, 4), 9);
        on.good("SLOT", Cases.then(run, x -> x.look(2, 1)), x -> x.found(0, 3), 9);
    }

    private static void killed(String what, String text, int want) {
        on.good(what, Cases.text(text), x -> x.entry(0, 3), want);
    }

    private static void promise27KilledIfAllOfItsChainAreDead() {
        killed("DEAD", "row 1 1 1;begin;delete 2 0;commit 2;begin;look 3 1;", 1);
        killed("DYING", "row 1 1 1;begin;begin;delete 2 0;commit 2;begin;look 4 1;", 0);
        killed("ended by one that is OPEN", "row 1 1 1;begin;delete 2 0;begin;look 3 1;", 0);
        killed("ended by one that is GONE", "row 1 1 1;begin;delete 2 0;abort 2;begin;look 3 1;", 0);
        killed("MAKER GONE", "begin;insert 2 1 1 1;abort 2;begin;look 3 1;", 1);
        killed("MAKER OPEN, unseen", "begin;insert 2 1 1 1;begin;look 3 1;", 0);
        killed("a STUB", "row 1 1 1;begin;delete 2 0;commit 2;prune 0;begin;look 3 1;", 1);
        killed("the last of the CHAIN lives", "row 1 1 1;begin;update 2 0 1 1 1;commit 2;begin;look 3 1;", 0);
        killed("all of two are DEAD", "row 1 1 1;begin;update 2 0 1 1 1;delete 2 0;commit 2;begin;look 3 1;", 1);
        killed("the first is DEAD, none is behind it: another KEY", "row 1 1 1;begin;update 2 0 2 1 1;commit 2;begin;look 3 1;", 1);
        killed("another KEY was looked for", "row 1 1 1;begin;delete 2 0;commit 2;begin;look 3 2;", 0);
        killed("TURNED to a DEAD one", THREE + "commit 3;prune 0;begin;delete 5 0;commit 5;begin;look 6 1;", 1);
    }

    private static void promise27KilledOnesAreNotGoneThrough() {
        String text = "begin;insert 2 1 1 1;insert 2 1 1 1;abort 2;begin;look 3 1;";
        on.good("READS: not KILLED as it comes there", Cases.text(text), x -> x.counts(7), 2);
        on.good("READS again", Cases.text(text + "look 3 1;"), x -> x.counts(7), 2);
        on.good("none is FOUND", Cases.text(text), x -> x.look(3, 1), 0);
    }

    private static void promise27ReadsUnlessThePageIsClear() {
        String text = "units 32;row 1 1 20;row 1 1 20;row 1 1 1;vacuum;begin;";
        on.good("CLEAR", Cases.text(text + "look 2 1;"), x -> x.counts(7), 0);
        on.good("FOUND even so", Cases.text(text), x -> x.look(2, 1), 3);
        on.good("two ENTRIES lead to page 0", Cases.text(text + "delete 2 0;look 2 1;"), x -> x.counts(7), 2);
        on.good("one to page 1", Cases.text(text + "delete 2 1;look 2 1;"), x -> x.counts(7), 1);
    }

    private static void promise27IfItHasThatKey() {
        Cases.Run run = Cases.text("row 1 1 1;begin;update 2 0 2 2 2;update 2 0 1 3 3;");
        on.good("the newest by the last ENTRY", run, x -> x.look(2, 1), 1);
        on.good("it", Cases.then(run, x -> x.look(2, 1)), x -> x.found(0, 1), 3);
        on.good("not the one in between", run, x -> x.look(2, 2), 0);
    }

    // ---- promise 28: found

    /** Rows 0 and 1 of KEY 1, in slots 0 and 1, found by 2; row 0 is ahead of nothing. */
    private static final Cases.Run FOUND = Cases.text("row 1 10 1;row 1 11 1;begin;update 2 0 1 12 1;look 2 1;");

    private static void promise28IBelow0() {
        on.refused("found(-1, 0)", FOUND, x -> x.found(-1, 0), 1);
        on.refused("found(least, 0)", FOUND, x -> x.found(Integer.MIN_VALUE, 0), 1);
    }

    private static void promise28FromTheFirstToTheLast() {
        on.tellsEach("found(0, ..)", FOUND, (x, w) -> x.found(0, w), 0, 12, 0, 2, 1);
        on.tellsEach("found(1, ..)", FOUND, (x, w) -> x.found(1, w), 1, 11, 0, 1, 0);
        on.refused("found(2, 0)", FOUND, x -> x.found(2, 0), 5);
        on.refused("found(most, 0)", FOUND, x -> x.found(Integer.MAX_VALUE, 0), 5);
    }

    private static void promise28Forty() {
        Cases.Run run = Cases.text("row 1 1 1;".repeat(40) + "begin;look 2 1;");
        on.good("found(39, 0)", run, x -> x.found(39, 0), 39);
        on.good("found(39, 2)", run, x -> x.found(39, 2), 3);
        on.refused("found(40, 0)", run, x -> x.found(40, 0), 5);
    }

    private static void promise28WhatFrom0To4() {
        on.refused("found(0, -1)", FOUND, x -> x.found(0, -1), 1);
        on.refused("found(0, 5)", FOUND, x -> x.found(0, 5), 1);
        on.refusedEach("found(0, ..)", FOUND, (x, w) -> x.found(0, w), 1, FAR);
    }

    private static void promise28NumbersAheadOfWhatIsNotThere() {
        on.refused("found(2, 5)", FOUND, x -> x.found(2, 5), 1);
        on.refused("found(0, -1) of none", Cases.NEW, x -> x.found(0, -1), 1);
    }

    private static void promise28NoneWasFound() {
        on.refused("ahead of any look()", Cases.text("row 1 1 1;begin;"), x -> x.found(0, 0), 5);
        on.refused("the latest one FOUND none", Cases.then(FOUND, x -> x.look(2, 9)), x -> x.found(0, 0), 5);
        on.refused("since load()", Cases.then(FOUND, x -> x.load(0)), x -> x.found(0, 0), 5);
    }

    private static void promise28TheLatestLookThatWasNotRefused() {
        Cases.Run run = x -> {
            FOUND.on(x);
            x.look(2, 100);
            x.look(9, 9);
            x.look(1, 9);
        };
        on.good("found(0, 1)", run, x -> x.found(0, 1), 12);
        on.refused("found(2, 0)", run, x -> x.found(2, 0), 5);
        on.good("fewer than before", Cases.then(FOUND, x -> x.insert(2, 3, 33, 1), x -> x.look(2, 3)), x -> x.found(0, 1), 33);
        on.refused("fewer than before", Cases.then(FOUND, x -> x.insert(2, 3, 33, 1), x -> x.look(2, 3)), x -> x.found(1, 1), 5);
    }

    private static void promise28AsItWasThen() {
        Cases.Run run = Cases.then(FOUND, x -> x.update(2, 0, 1, 99, 1), x -> x.delete(2, 1), x -> x.commit(2), RowPruner::vacuum, RowPruner::repack);
        on.tellsEach("found(0, ..)", run, (x, w) -> x.found(0, w), 0, 12, 0, 2, 1);
        on.tellsEach("found(1, ..)", run, (x, w) -> x.found(1, w), 1, 11, 0, 1, 0);
        on.good("a refused load()", x -> {
            run.on(x);
            Due.load(x, "begin;look 2 1;x");
        }, x -> x.found(0, 1), 12);
    }

    private static void promise28InTheOrderOfTheEntries() {
        Cases.Run run = Cases.text("units 32;row 1 0 20;row 1 1 10;row 1 2 20;row 1 3 2;begin;look 2 1;");
        on.tellsEach("found(.., 0)", run, (x, w) -> x.found(w, 0), 0, 1, 3, 2);
    }

    // ---- promise 29: repack

    private static void promise29OneIsOpen() {
        on.refused("one", Cases.text("row 1 1 1;begin;"), RowPruner::repack, 10);
        on.refused("one of two", Cases.text("row 1 1 1;begin;begin;commit 2;"), RowPruner::repack, 10);
        on.good("none", Cases.text("row 1 1 1;begin;begin;commit 2;abort 3;"), RowPruner::repack, 1);
        on.refused("the 60th", Cases.then(Cases.NEW, Cases.times(59, RowPruner::begin)), RowPruner::repack, 10);
    }

    /** Six rows of 20 with greater KEYS behind six of 12: the first two pages are filled by those. */
    private static final String TIGHT = "units 32;row 50 1 20;row 0 1 12;row 51 1 20;row 1 1 12;row 52 1 20;row 2 1 12;"
        + "row 53 1 20;row 3 1 12;row 54 1 20;row 4 1 12;row 55 1 20;row 5 1 12;";

    private static void promise29NoPageHasPlace() {
        on.refused("repack()", Cases.text(TIGHT), RowPruner::repack, 5);
        on.refused("behind vacuum()", Cases.text(TIGHT + "vacuum;"), RowPruner::repack, 5);
        on.refused("with FOUND ones", Cases.text(TIGHT + "begin;look 2 50;commit 2;"), RowPruner::repack, 5);
    }

    private static void promise29OpenAheadOfNoPlace() {
        on.refused("10, 5", Cases.text(TIGHT + "begin;"), RowPruner::repack, 10);
    }

    private static void promise29ItJustFits() {
        // One of 12 leaves 20 in page 0 for the first of the six, two of 12 don't.
        String two = TIGHT.replaceAll("row [2-5] 1 12;", "");
        on.refused("two of 12", Cases.text(two), RowPruner::repack, 5);
        on.good("one of 12: six pages", Cases.text(two.replace("row 1 1 12;", "")), RowPruner::repack, 6);
    }

    private static void promise29HowManyPagesHaveSlots() {
        on.good("none", Cases.NEW, RowPruner::repack, 0);
        on.good("none lasts", Cases.text("begin;insert 2 1 1 1;abort 2;"), RowPruner::repack, 0);
        on.good("one", Cases.text("row 1 1 1;"), RowPruner::repack, 1);
        on.good("ten SLOTS", Cases.text("row 1 1 1;".repeat(10)), RowPruner::repack, 1);
        on.good("eleven", Cases.text("row 1 1 1;".repeat(11)), RowPruner::repack, 2);
        on.good("32 of 32", Cases.text("units 32;row 1 1 20;row 1 1 12;"), RowPruner::repack, 1);
        on.good("33 of 32", Cases.text("units 32;row 1 1 20;row 1 1 13;"), RowPruner::repack, 2);
    }

    private static void promise29WhichOnesLast() {
        on.good("none that is deleted", Cases.text("row 1 1 1;begin;delete 2 0;commit 2;repack;"), x -> x.many(7), 0);
        on.good("its ENDER is GONE", Cases.text("row 1 1 1;begin;delete 2 0;abort 2;repack;"), x -> x.many(7), 1);
        on.good("no ENDER then", Cases.text("row 1 1 1;begin;delete 2 0;abort 2;repack;"), x -> x.version(0, 0, 5), NONE);
        on.good("no NEXT then", Cases.text("row 1 1 1;begin;update 2 0 1 2 1;abort 2;repack;"), x -> x.version(0, 0, 6), NONE);
        on.good("no NEXT then", Cases.text("row 1 1 1;begin;update 2 0 1 2 1;abort 2;repack;"), x -> x.version(0, 0, 7), NONE);
        on.good("the newest", Cases.text("row 1 1 1;begin;update 2 0 1 2 1;commit 2;repack;"), x -> x.version(0, 0, 2), 2);
        on.good("not that of one that is GONE", Cases.text("row 1 1 1;begin;update 2 0 1 2 1;abort 2;repack;"), x -> x.version(0, 0, 2), 1);
        on.good("one of each row", Cases.text("row 1 1 1;begin;update 2 0 1 2 1;abort 2;repack;"), x -> x.many(7), 1);
    }

    private static void promise29ByKeysThenByRows() {
        Cases.Run run = Cases.text("row 99 1 1;row 5 2 1;row 0 3 1;row 5 4 1;begin;insert 2 0 5 1;update 2 1 5 6 1;commit 2;repack;");
        int[] rows = {2, 4, 1, 3, 0};
        for (int s = 0; s < rows.length; s++) {
            int slot = s;
            on.good("slot " + s, run, x -> x.version(0, slot, 0), rows[s]);
            on.good("its ENTRY", run, x -> x.entry(slot, 2), s);
        }
        on.good("no more ENTRIES", run, x -> x.many(6), 5);
    }

    private static void promise29TheFirstPageWithPlace() {
        Cases.Run run = Cases.text("units 32;row 1 1 20;row 2 1 20;row 3 1 12;row 4 1 12;repack;");
        on.tellsEach("PAGE of the row", run, (x, w) -> x.trail(w, 0, 0), 0, 1, 0, 1);
    }

    private static void promise29WhatStaysOfAVersion() {
        Cases.Run run = Cases.text("age 0;row 7 1 4;begin;update 2 0 7 8 9;commit 2;vacuum;repack;");
        on.tellsEach("version()", run, (x, w) -> x.version(0, 0, w), 0, 7, 8, 9, 2, NONE, NONE, NONE, 0, 1, 0, 0);
    }

    private static void promise29AllElseIsNoMore() {
        String text = "row 1 1 1;row 1 2 1;row 2 2 1;begin;update 2 0 1 2 1;delete 2 1;insert 2 9 9 9;commit 2;begin;insert 3 8 8 8;abort 3;";
        Cases.Run run = Cases.text(text + "prune 0;begin;look 4 8;commit 4;vacuum;repack;");
        on.good("SLOTS", run, x -> x.page(0, 0), 3);
        on.good("TURNED", run, x -> x.many(13), 0);
        on.good("STUBS", Cases.text(text + "prune 0;repack;"), x -> x.many(12), 0);
        on.good("UNUSED", Cases.text(text + "prune 0;repack;"), x -> x.page(0, 3), 0);
        on.good("ENTRIES", Cases.text(text + "repack;"), x -> x.many(6), 3);
        on.good("ROWS are still counted", run, x -> x.many(3), 5);
        on.good("no VERSIONS", run, x -> x.versions(4), 0);
    }

    private static void promise29ItTellsAndCountsNothing() {
        Cases.Run run = Cases.text("row 1 1 1;begin;delete 2 0;commit 2;repack;");
        on.good("EVENT", run, x -> x.event(0, 0), 6);
        on.refused("no more", run, x -> x.event(1, 0), 5);
        on.tellsEach("counts()", run, RowPruner::counts, 0, 0, 0, 0, 0, 0, 0, 0);
    }

    private static void promise29Twice() {
        Cases.Run run = Cases.text("units 32;row 9 1 20;row 5 1 20;row 7 1 12;vacuum;repack;");
        on.sameButTape("repack() again", run, Cases.then(run, RowPruner::repack));
    }

    // ---- promise 30: set

    private static void promise30BatchFrom1To8() {
        on.good("1", Cases.NEW, x -> x.set(0, 1), 3);
        on.good("8", Cases.NEW, x -> x.set(0, 8), 3);
        on.good("what it was", Cases.then(Cases.NEW, x -> x.set(0, 8)), x -> x.set(0, 1), 8);
        on.good("what it is", Cases.then(Cases.NEW, x -> x.set(0, 8)), x -> x.many(1), 8);
        for (int much : new int[] {Integer.MIN_VALUE, -1, 0, 9, Integer.MAX_VALUE}) on.refused("BATCH " + much, States.BUSY, x -> x.set(0, much), 1);
    }

    private static void promise30AgeFrom0To30() {
        on.good("0", Cases.NEW, x -> x.set(1, 0), 5);
        on.good("30", Cases.NEW, x -> x.set(1, 30), 5);
        on.good("what it was", Cases.then(Cases.NEW, x -> x.set(1, 30)), x -> x.set(1, 0), 30);
        on.good("what it is", Cases.then(Cases.NEW, x -> x.set(1, 30)), x -> x.many(2), 30);
        for (int much : new int[] {Integer.MIN_VALUE, -1, 31, Integer.MAX_VALUE}) on.refused("AGE " + much, States.BUSY, x -> x.set(1, much), 1);
    }

    private static void promise30WhatFrom0To1() {
        for (int w : new int[] {Integer.MIN_VALUE, -1, 2, Integer.MAX_VALUE}) on.refused("set(" + w + ", 4)", States.BUSY, x -> x.set(w, 4), 1);
    }

    private static void promise30OneLeavesTheOther() {
        on.good("AGE", Cases.then(Cases.NEW, x -> x.set(0, 8)), x -> x.many(2), 5);
        on.good("BATCH", Cases.then(Cases.NEW, x -> x.set(1, 8)), x -> x.many(1), 3);
        on.good("AGE, too: 9 is none for BATCH", Cases.then(Cases.NEW, x -> x.set(1, 9)), x -> x.many(2), 9);
    }

    private static void promise30FromTheNextVacuumOn() {
        String rows = "row 1 1 1;row 1 1 1;row 1 1 1;begin;delete 2 0;delete 2 1;commit 2;";
        on.good("BATCH 1", Cases.then(Cases.text(rows), x -> x.set(0, 1), RowPruner::vacuum), x -> x.counts(3), 2);
        on.good("AGE 1: MAKER 1, HORIZON 3", Cases.then(Cases.text(rows), x -> x.set(1, 1), RowPruner::vacuum), x -> x.many(10), 1);
        on.good("AGE 2", Cases.then(Cases.text(rows), x -> x.set(1, 2), RowPruner::vacuum), x -> x.many(10), 0);
    }

    // ---- promise 31: mark

    private static void promise31ThreeAndNoMore() {
        Cases.Run run = States.BUSY_UNMARKED;
        for (int i = 1; i <= 3; i++) {
            on.good("mark()", run, RowPruner::mark, i);
            run = Cases.then(run, RowPruner::mark);
        }
        on.refused("a fourth", run, RowPruner::mark, 3);
    }

    private static void promise31AgainBehindBack() {
        Cases.Run run = Cases.then(Cases.NEW, RowPruner::mark, RowPruner::mark, RowPruner::mark, RowPruner::back);
        on.good("a third again", run, RowPruner::mark, 3);
    }

    private static void promise31AllElseStays() {
        Cases.Run run = Cases.then(States.BUSY_UNMARKED, RowPruner::mark, RowPruner::back);
        on.changesNothing("mark(), back()", States.BUSY_UNMARKED, x -> {
            x.mark();
            return x.back();
        });
        on.good("no MARKS", run, x -> x.many(14), 0);
    }

    // ---- promise 32: back

    private static void promise32WithoutMarks() {
        on.refused("back()", States.BUSY_UNMARKED, RowPruner::back, 5);
        on.refused("back() again", Cases.then(States.BUSY_UNMARKED, RowPruner::mark, RowPruner::back), RowPruner::back, 5);
    }

    private static void promise32HowManyAreLeft() {
        Cases.Run run = Cases.then(Cases.NEW, RowPruner::mark, RowPruner::mark, RowPruner::mark);
        for (int left = 2; left >= 0; left--) {
            on.good("back()", run, RowPruner::back, left);
            run = Cases.then(run, RowPruner::back);
        }
        on.refused("none", run, RowPruner::back, 5);
    }

    /** All but the tape and what fault() tells is as it was: whatever was done since. */
    private static void promise32AllIsTakenBack() {
        Cases.Call[] since = {x -> x.commit(5), RowPruner::begin, x -> x.insert(9, 1, 1, 1), x -> x.update(9, 0, 1, 1, 1),
            x -> x.update(9, 0, 2, 1, 20), x -> x.delete(9, 6), x -> x.abort(7), x -> x.look(9, 1), x -> x.set(0, 8), x -> x.set(1, 30),
            x -> x.prune(0), RowPruner::vacuum, x -> x.commit(9), x -> x.commit(8), RowPruner::repack};
        for (int many = 1; many <= since.length; many++) {
            Cases.Run run = Cases.then(Cases.then(States.BUSY, RowPruner::mark), Arrays.copyOf(since, many));
            on.sameButTape("back() from " + many + " calls", States.BUSY, Cases.then(run, RowPruner::back));
        }
    }

    private static void promise32LoadIsTakenBackButForTheTapeAndTheFault() {
        Cases.Run run = x -> {
            States.BUSY.on(x);
            Due.load(x, "units 96;batch 8;age 9;row 1 1 1;begin;look 2 1;");
            Due.load(x, "row 1 1 0;");
            Due.feed(x, "begin;begin;begin;be");
            x.back();
        };
        on.sameButTape("back()", States.BUSY_UNMARKED, run);
        RowPruner x = Cases.after(run);
        due.is("fault(0)", x.fault(0), 4);
        due.is("fault(1)", x.fault(1), 8);
        due.is("the tape", x.feed(0, 0, 0, 0, 0), 40);
        due.good("load(18)", x, x.load(18), 0);
        due.good("many(4)", x, x.many(4), 5);
    }

    private static void promise32ToTheLatestMark() {
        RowPruner x = new RowPruner();
        for (int i = 1; i <= 3; i++) {
            x.set(1, 10 * i);
            x.mark();
        }
        x.set(1, 7);
        for (int i = 3; i >= 1; i--) {
            due.good("back()", x, x.back(), i - 1);
            due.good("AGE", x, x.many(2), 10 * i);
        }
    }

    private static void promise32TheNumbersGoOnFromThere() {
        RowPruner x = Due.loaded("begin;");
        x.mark();
        x.begin();
        x.insert(3, 1, 1, 1);
        x.back();
        due.good("begin()", x, x.begin(), 3);
        due.good("insert()", x, x.insert(3, 2, 2, 2), 0);
        due.good("KEY", x, x.sees(3, 0, 2), 2);
    }

    /** Which VERSION was made ahead of which is taken back, too, and goes on from there. */
    private static void promise32WhenTheyWereMade() {
        // Row 1 is in slot 1; the next one goes to slot 0, that was UNUSED, and one more behind both.
        Cases.Run run = Cases.text("row 9 1 1;row 1 1 1;begin;delete 2 0;commit 2;vacuum;begin;update 3 1 1 2 1;");
        Cases.Run[] taken = {Cases.then(run, RowPruner::mark, x -> x.load(0), RowPruner::back),
            Cases.then(run, RowPruner::mark, x -> x.commit(3), RowPruner::vacuum, RowPruner::repack, RowPruner::back)};
        for (Cases.Run back : taken) {
            Cases.Run more = Cases.then(back, x -> x.update(3, 1, 1, 3, 1));
            on.tellsEach("trail(1, .., 1)", back, (x, i) -> x.trail(1, i, 1), 1, 0);
            on.tellsEach("trail(1, .., 1) of one more", more, (x, i) -> x.trail(1, i, 1), 1, 0, 2);
        }
    }

    private static void promise32WhatWasFound() {
        Cases.Run run = Cases.then(FOUND, RowPruner::mark, x -> x.insert(2, 7, 70, 1), x -> x.insert(2, 7, 71, 1), x -> x.look(2, 7));
        on.good("another ROW", run, x -> x.found(0, 0), 2);
        on.sameButTape("back()", FOUND, Cases.then(run, RowPruner::back));
        on.sameButTape("back() from load()", FOUND, Cases.then(FOUND, RowPruner::mark, x -> x.load(0), RowPruner::back));
    }

    private static void promise32AMarkIsNotChangedByWhatComesBehindIt() {
        RowPruner x = Due.loaded("row 1 1 1;begin;");
        x.mark();
        x.mark();
        x.update(2, 0, 1, 5, 1);
        x.back();
        x.update(2, 0, 1, 6, 1);
        due.good("back()", x, x.back(), 0);
        due.good("sees(2, 0, 3)", x, x.sees(2, 0, 3), 1);
        due.good("versions(0)", x, x.versions(0), 1);
    }
}
