/** The boundary cases of promises 6 to 17, each in a case of its own: what there is. */
final class BoundsTellTest {
    private static final Cases on = new Cases(BoundsTellTest.class, 6, 17);
    private static final Due due = on.due;
    private static final int NONE = RowPruner.NONE;
    private static final int[] FAR = {Integer.MIN_VALUE, -1000, Integer.MAX_VALUE};
    /** Row 0 has an older version in slot 0 and a light one in slot 1; 3, which is OPEN, noted 2. */
    private static final Cases.Run DYING = Cases.text("row 1 10 4;begin;update 2 0 1 20 5;begin;commit 2;");

    public static void main(String[] args) {
        on.runAll();
    }

    // ---- promise 6: many

    private static void promise6WhatBelow0() {
        on.refused("many(-1)", States.BUSY, x -> x.many(-1), 1);
    }

    private static void promise6WhatAbove16() {
        on.refused("many(17)", States.BUSY, x -> x.many(17), 1);
        on.refusedEach("many(..)", States.BUSY, (x, w) -> x.many(w), 1, FAR);
    }

    private static void promise6FromTheFirstWhatToTheLast() {
        on.tellsEach("many()", States.BUSY, RowPruner::many, 40, 2, 1, 6, 9, 4, 5, 5, 1, 1, 2, 2, 1, 1, 1, 3, 1);
    }

    private static void promise6FortyRows() {
        Cases.Run run = Cases.text("begin;" + "insert 2 1 1 1;".repeat(39));
        on.tells("39", run, x -> x.many(3), 39);
        on.tells("40", Cases.then(run, x -> x.insert(2, 1, 1, 1)), x -> x.many(3), 40);
    }

    private static void promise6TheNextTransaction() {
        on.tells("2", Cases.NEW, x -> x.many(4), 2);
        on.tells("60", Cases.text("begin;".repeat(58)), x -> x.many(4), 60);
        on.tells("61: there won't be one", Cases.text("begin;".repeat(59)), x -> x.many(4), 61);
    }

    private static void promise6HorizonWithoutAnOpenOne() {
        on.good("2", Cases.NEW, x -> x.many(5), 2);
        on.good("the next number", Cases.text("begin;begin;commit 2;abort 3;"), x -> x.many(5), 4);
        RowPruner x = Cases.after(Cases.text("begin;".repeat(59)));
        for (int t = 2; t <= 60; t++) x.commit(t);
        due.good("61", x, x.many(5), 61);
    }

    private static void promise6HorizonIsTheLeastLowNotTheLeastNumber() {
        on.good("its own number", Cases.text("begin;"), x -> x.many(5), 2);
        on.good("LOW of 3, which noted 2", Cases.text("begin;begin;commit 2;"), x -> x.many(5), 2);
        on.good("LOW of 3, which noted 2 that is GONE", Cases.text("begin;begin;abort 2;"), x -> x.many(5), 2);
        on.good("LOW of 4, which noted 3 but not 2", Cases.text("begin;begin;commit 2;begin;commit 3;"), x -> x.many(5), 3);
        on.good("one that began behind all", Cases.text("begin;commit 2;begin;"), x -> x.many(5), 3);
    }

    private static void promise6SixtyEntries() {
        on.good("59", States.NEARLY_FULL_INDEX, x -> x.many(6), 59);
        on.good("60", States.FULL_INDEX, x -> x.many(6), 60);
    }

    private static void promise6SixtyVersions() {
        on.good("60", States.FULL_INDEX, x -> x.many(7), 60);
        on.good("none", Cases.text("begin;"), x -> x.many(7), 0);
    }

    private static void promise6AnEnderThatIsTheHorizonMakesDying() {
        on.good("HORIZON", DYING, x -> x.many(5), 2);
        on.good("ENDER", DYING, x -> x.version(0, 0, 5), 2);
        on.good("DEAD", DYING, x -> x.many(8), 0);
        on.good("DYING", DYING, x -> x.many(9), 1);
    }

    private static void promise6AnEnderOneLessThanTheHorizonMakesDead() {
        Cases.Run run = Cases.text("row 1 10 4;begin;update 2 0 1 20 5;commit 2;begin;");
        on.good("HORIZON", run, x -> x.many(5), 3);
        on.good("DEAD", run, x -> x.many(8), 1);
        on.good("DYING", run, x -> x.many(9), 0);
    }

    private static void promise6AnEnderGreaterThanTheHorizonMakesDying() {
        Cases.Run run = Cases.text("row 1 10 4;begin;begin;update 3 0 1 20 5;commit 3;");
        on.good("HORIZON", run, x -> x.many(5), 2);
        on.good("DEAD", run, x -> x.many(8), 0);
        on.good("DYING", run, x -> x.many(9), 1);
    }

    private static void promise6AnEnderThatIsOpenOrGoneMakesNeither() {
        String[] ends = {"", "abort 2;", "abort 2;begin;"};
        for (String end : ends) {
            Cases.Run run = Cases.text("row 1 10 4;begin;delete 2 0;" + end);
            on.good("DEAD", run, x -> x.many(8), 0);
            on.good("DYING", run, x -> x.many(9), 0);
        }
    }

    private static void promise6AMakerThatIsGoneMakesDeadAheadOfTheHorizon() {
        Cases.Run run = Cases.text("begin;begin;insert 3 1 1 1;delete 3 0;insert 3 2 2 2;abort 3;");
        on.good("HORIZON", run, x -> x.many(5), 2);
        on.good("DEAD", run, x -> x.many(8), 2);
        on.good("DYING", run, x -> x.many(9), 0);
    }

    private static void promise6AMakerThatIsOpenMakesNeither() {
        Cases.Run run = Cases.text("begin;insert 2 1 1 1;delete 2 0;begin;");
        on.good("DEAD", run, x -> x.many(8), 0);
        on.good("DYING", run, x -> x.many(9), 0);
    }

    private static void promise6FrozenOnesAreDyingAndDeadByTheirEnder() {
        Cases.Run run = Cases.text("age 0;row 1 1 1;vacuum;begin;begin;delete 2 0;commit 2;");
        on.good("FROZEN", run, x -> x.many(10), 1);
        on.good("DYING", run, x -> x.many(9), 1);
        Cases.Run later = Cases.then(run, x -> x.commit(3));
        on.good("DEAD", later, x -> x.many(8), 1);
        on.good("DYING", later, x -> x.many(9), 0);
        on.good("FROZEN", later, x -> x.many(10), 1);
    }

    private static void promise6LightOnesStayLightBehindATurnedSlot() {
        Cases.Run run = Cases.then(DYING, x -> x.commit(3), x -> x.prune(0));
        on.good("LIGHT", run, x -> x.many(11), 1);
        on.good("TURNED", run, x -> x.many(13), 1);
        on.good("LIGHT behind repack()", Cases.then(run, RowPruner::repack), x -> x.many(11), 0);
        on.good("TURNED behind repack()", Cases.then(run, RowPruner::repack), x -> x.many(13), 0);
    }

    private static void promise6StubsTillVacuum() {
        Cases.Run run = Cases.text("row 1 1 1;row 2 2 2;begin;delete 2 0;delete 2 1;commit 2;");
        on.good("none yet", run, x -> x.many(12), 0);
        on.good("two", Cases.then(run, x -> x.prune(0)), x -> x.many(12), 2);
        on.good("none", Cases.then(run, RowPruner::vacuum), x -> x.many(12), 0);
    }

    private static void promise6ThreeMarks() {
        Cases.Run run = Cases.NEW;
        for (int i = 0; i <= 3; i++) {
            on.good("MARKS", run, x -> x.many(14), i);
            if (i < 3) run = Cases.then(run, RowPruner::mark);
        }
    }

    private static void promise6OpenOnes() {
        on.good("none", Cases.NEW, x -> x.many(15), 0);
        on.good("all but the first", Cases.text("begin;".repeat(59)), x -> x.many(15), 59);
        on.good("neither DONE nor GONE", Cases.text("begin;begin;begin;commit 2;abort 4;"), x -> x.many(15), 1);
    }

    private static void promise6ThoseThatWait() {
        Cases.Run run = Cases.text("row 1 1 1;begin;delete 2 0;begin;begin;");
        on.good("none", run, x -> x.many(16), 0);
        Cases.Run two = Cases.then(run, x -> x.await(3, 0), x -> x.await(4, 0));
        on.good("two", two, x -> x.many(16), 2);
        on.good("one", Cases.then(two, x -> x.abort(4)), x -> x.many(16), 1);
        on.good("none", Cases.then(two, x -> x.commit(2)), x -> x.many(16), 0);
        on.good("none", Cases.then(two, x -> x.abort(2)), x -> x.many(16), 0);
    }

    // ---- promise 7: counts

    private static void promise7WhatBelow0() {
        on.refused("counts(-1)", States.BUSY, x -> x.counts(-1), 1);
    }

    private static void promise7WhatAbove7() {
        on.refused("counts(8)", States.BUSY, x -> x.counts(8), 1);
        on.refusedEach("counts(..)", States.BUSY, (x, w) -> x.counts(w), 1, FAR);
    }

    private static void promise7FromTheFirstWhatToTheLast() {
        on.tellsEach("counts()", States.BUSY, RowPruner::counts, 2, 3, 1, 1, 1, 3, 1, 4);
    }

    private static void promise7PruningsThatMadeNoneGo() {
        Cases.Run run = Cases.then(DYING, x -> x.prune(0), x -> x.prune(5), RowPruner::vacuum);
        on.good("PRUNINGS", run, x -> x.counts(0), 0);
        on.good("VERSIONS", run, x -> x.counts(1), 0);
        Cases.Run more = Cases.then(run, x -> x.commit(3), RowPruner::vacuum, RowPruner::vacuum);
        on.good("PRUNINGS", more, x -> x.counts(0), 1);
        on.good("VERSIONS", more, x -> x.counts(1), 1);
    }

    private static void promise7EachPageThatIsPrunedIsAPruning() {
        Cases.Run run = Cases.text("units 32;row 1 1 20;row 2 1 1;row 3 1 20;begin;delete 2 0;delete 2 1;delete 2 2;commit 2;vacuum;");
        on.good("PRUNINGS", run, x -> x.counts(0), 2);
        on.good("VERSIONS", run, x -> x.counts(1), 3);
    }

    private static void promise7AnUpdatesPruningCounts() {
        String text = "units 32;row 1 1 12;row 2 2 20;begin;delete 2 1;commit 2;begin;update 3 0 1 2 20;";
        on.good("PRUNINGS", Cases.text(text), x -> x.counts(0), 1);
        on.good("EVENT", Cases.text(text), x -> x.event(0, 0), 0);
    }

    private static void promise7AnUpdateThatIsRefusedCountsNothing() {
        Cases.Run run = Cases.text("units 32;" + "row 1 1 20;".repeat(6) + "row 2 1 1;begin;delete 2 6;commit 2;begin;");
        on.refused("update()", run, x -> x.update(3, 0, 1, 1, 20), 5);
    }

    private static void promise7SlotsThatAreNewAreNotUsedAgain() {
        Cases.Run run = Cases.text("row 1 1 1;row 2 1 1;begin;update 2 0 1 2 1;insert 2 3 3 3;");
        on.good("none", run, x -> x.counts(2), 0);
    }

    private static void promise7SlotsThatWereNoMoreAreNotUsedAgain() {
        Cases.Run run = Cases.text("row 1 1 1;begin;insert 2 3 3 3;abort 2;vacuum;begin;insert 3 3 3 3;");
        on.good("none", run, x -> x.counts(2), 0);
    }

    private static void promise7SlotsThatWereUnusedAreUsedAgain() {
        String text = "row 1 1 1;row 2 2 2;row 3 3 3;begin;delete 2 0;delete 2 1;commit 2;vacuum;begin;";
        on.good("none", Cases.text(text), x -> x.counts(2), 0);
        on.good("by insert()", Cases.text(text + "insert 3 4 4 4;"), x -> x.counts(2), 1);
        on.good("by update()", Cases.text(text + "insert 3 4 4 4;update 3 2 3 4 5;"), x -> x.counts(2), 2);
        on.good("a third one is new", Cases.text(text + "insert 3 4 4 4;update 3 2 3 4 5;insert 3 4 4 4;"), x -> x.counts(2), 2);
    }

    private static void promise7RepackUsesNoSlotAgain() {
        Cases.Run run = Cases.text("row 1 1 1;row 2 2 2;begin;delete 2 0;commit 2;vacuum;repack;");
        on.good("none", run, x -> x.counts(2), 0);
        on.good("PRUNINGS", run, x -> x.counts(0), 1);
    }

    private static void promise7PassesAndEntries() {
        String text = "batch 2;" + "row 1 1 1;".repeat(5) + "begin;" + "delete 2 0;delete 2 1;delete 2 2;delete 2 3;delete 2 4;" + "commit 2;";
        on.good("none: STUBS are no PASS", Cases.text(text + "prune 0;"), x -> x.counts(3), 0);
        on.good("three", Cases.text(text + "vacuum;"), x -> x.counts(3), 3);
        on.good("ENTRIES", Cases.text(text + "vacuum;"), x -> x.counts(4), 5);
        on.good("no more", Cases.text(text + "vacuum;vacuum;"), x -> x.counts(3), 3);
    }

    private static void promise7FrozenOnce() {
        Cases.Run run = Cases.text("age 0;row 1 1 1;row 2 2 2;vacuum;");
        on.good("two", run, x -> x.counts(5), 2);
        on.good("not again", Cases.then(run, RowPruner::vacuum), x -> x.counts(5), 2);
        on.good("not by repack()", Cases.then(run, RowPruner::repack, RowPruner::vacuum), x -> x.counts(5), 2);
    }

    private static void promise7KilledOnce() {
        Cases.Run run = Cases.text("begin;insert 2 7 1 1;insert 2 7 1 1;abort 2;begin;look 3 7;");
        on.good("two", run, x -> x.counts(6), 2);
        on.good("not again", Cases.then(run, x -> x.look(3, 7)), x -> x.counts(6), 2);
        on.good("going is no killing", Cases.text("begin;insert 2 7 1 1;abort 2;vacuum;"), x -> x.counts(6), 0);
    }

    private static void promise7ReadsOfLookAlone() {
        Cases.Run run = Cases.text("row 7 1 1;row 7 1 1;row 8 1 1;begin;look 2 7;");
        on.good("two", run, x -> x.counts(7), 2);
        on.tells("reads() makes none", run, x -> x.reads(2, 7), 2);
        on.good("none of another KEY", Cases.then(run, x -> x.look(2, 9)), x -> x.counts(7), 2);
    }

    private static void promise7SinceLoad() {
        RowPruner x = Cases.after(States.BUSY);
        x.load(0);
        for (int i = 0; i < 8; i++) due.good("counts(" + i + ")", x, x.counts(i), 0);
    }

    // ---- promise 8: page

    private static void promise8PagesBelow0() {
        on.refusedEach("page(-1, ..)", States.BUSY, (x, w) -> x.page(-1, w), 2, 0, 1, 2, 3, 4);
    }

    private static void promise8PagesAbove5() {
        on.refusedEach("page(6, ..)", States.BUSY, (x, w) -> x.page(6, w), 2, 0, 1, 2, 3, 4);
        on.refusedEach("page(.., 0)", States.BUSY, (x, p) -> x.page(p, 0), 2, FAR);
    }

    private static void promise8WhatFrom0To4() {
        on.refused("page(0, -1)", States.BUSY, x -> x.page(0, -1), 1);
        on.refused("page(5, 5)", States.BUSY, x -> x.page(5, 5), 1);
        on.refusedEach("page(0, ..)", States.BUSY, (x, w) -> x.page(0, w), 1, FAR);
        on.tellsEach("page(0, ..)", States.BUSY, (x, w) -> x.page(0, w), 7, 11, 6, 0, 0);
    }

    private static void promise8WhatAheadOfThePage() {
        on.refused("page(6, 5)", States.BUSY, x -> x.page(6, 5), 1);
        on.refused("page(-1, -1)", States.BUSY, x -> x.page(-1, -1), 1);
    }

    private static void promise8TheFirstPageAndTheLast() {
        Cases.Run run = Cases.text("units 32;" + "row 1 1 20;".repeat(6));
        on.tells("page 0", run, x -> x.page(0, 0), 1);
        on.tells("page 5", run, x -> x.page(5, 0), 1);
        on.tells("page 5", run, x -> x.page(5, 1), 12);
    }

    private static void promise8TenSlots() {
        Cases.Run nine = Cases.text("row 1 1 1;".repeat(9));
        on.good("nine", nine, x -> x.page(0, 0), 9);
        Cases.Run ten = Cases.text("row 1 1 1;".repeat(10));
        on.good("ten", ten, x -> x.page(0, 0), 10);
        Cases.Run eleven = Cases.text("row 1 1 1;".repeat(11));
        on.good("still ten", eleven, x -> x.page(0, 0), 10);
        on.good("FREE though there is no SLOT", eleven, x -> x.page(0, 1), 54);
        on.good("one", eleven, x -> x.page(1, 0), 1);
    }

    private static void promise8FreeDownTo0() {
        on.good("all", Cases.text("units 32;"), x -> x.page(0, 1), 32);
        on.good("none", Cases.text("units 32;row 1 1 20;row 1 1 12;"), x -> x.page(0, 1), 0);
        on.good("DEAD ones still take theirs", Cases.text("begin;insert 2 1 1 20;abort 2;"), x -> x.page(0, 1), 44);
        on.good("STUBS take none", Cases.text("begin;insert 2 1 1 20;abort 2;prune 0;"), x -> x.page(0, 1), 64);
    }

    private static void promise8UnitsOfDeadOnes() {
        on.good("DYING ones are not DEAD", DYING, x -> x.page(0, 2), 0);
        on.good("DEAD", Cases.then(DYING, x -> x.commit(3)), x -> x.page(0, 2), 4);
        on.good("none behind prune()", Cases.then(DYING, x -> x.commit(3), x -> x.prune(0)), x -> x.page(0, 2), 0);
        on.good("of another page", Cases.then(DYING, x -> x.commit(3)), x -> x.page(1, 2), 0);
    }

    private static void promise8UnusedOnesAreNoStubsAndNotTurned() {
        Cases.Run run = Cases.text("row 1 1 1;row 2 2 2;begin;update 2 0 1 2 3;update 2 0 1 3 3;delete 2 1;commit 2;prune 0;");
        // Slot 0 is TURNED to 3, 1 is a STUB, 2 is UNUSED.
        on.good("one", run, x -> x.page(0, 3), 1);
        on.good("two", Cases.then(run, RowPruner::vacuum), x -> x.page(0, 3), 2);
        on.good("SLOTS", Cases.then(run, RowPruner::vacuum), x -> x.page(0, 0), 4);
    }

    private static void promise8ClearFromVacuumOnAlone() {
        on.good("at first", Cases.text("row 1 1 1;"), x -> x.page(0, 4), 0);
        on.good("by prune()", Cases.text("row 1 1 1;prune 0;"), x -> x.page(0, 4), 0);
        on.good("by vacuum()", Cases.text("row 1 1 1;vacuum;"), x -> x.page(0, 4), 1);
        on.good("without SLOTS", Cases.text("row 1 1 1;vacuum;"), x -> x.page(5, 4), 1);
    }

    // ---- promise 9: slot

    private static void promise9PagesFrom0To5() {
        Cases.Run run = Cases.text("units 32;" + "row 1 1 20;".repeat(6));
        on.refused("slot(-1, 0, 0)", run, x -> x.slot(-1, 0, 0), 2);
        on.refused("slot(6, 0, 0)", run, x -> x.slot(6, 0, 0), 2);
        on.tells("slot(0, 0, 0)", run, x -> x.slot(0, 0, 0), 1);
        on.tells("slot(5, 0, 0)", run, x -> x.slot(5, 0, 0), 1);
        on.refusedEach("slot(.., 0, 0)", run, (x, p) -> x.slot(p, 0, 0), 2, FAR);
    }

    private static void promise9SlotsThatThePageHas() {
        on.refused("slot(0, -1, 0)", DYING, x -> x.slot(0, -1, 0), 2);
        on.refused("slot(0, 2, 0)", DYING, x -> x.slot(0, 2, 0), 2);
        on.tells("slot(0, 1, 0)", DYING, x -> x.slot(0, 1, 0), 1);
        on.refused("slot(1, 0, 0): none at first", DYING, x -> x.slot(1, 0, 0), 2);
        on.refusedEach("slot(0, .., 0)", DYING, (x, s) -> x.slot(0, s, 0), 2, FAR);
        Cases.Run full = Cases.text("row 1 1 1;".repeat(11));
        on.tells("slot(0, 9, 0)", full, x -> x.slot(0, 9, 0), 1);
        on.refused("slot(0, 10, 0)", full, x -> x.slot(0, 10, 0), 2);
        on.refused("slot(1, 1, 0)", full, x -> x.slot(1, 1, 0), 2);
    }

    private static void promise9WhatFrom0To3() {
        on.refused("slot(0, 0, -1)", DYING, x -> x.slot(0, 0, -1), 1);
        on.refused("slot(0, 0, 4)", DYING, x -> x.slot(0, 0, 4), 1);
        on.refusedEach("slot(0, 0, ..)", DYING, (x, w) -> x.slot(0, 0, w), 1, FAR);
    }

    private static void promise9WhatAheadOfPageAndSlot() {
        on.refused("slot(6, 0, 4)", DYING, x -> x.slot(6, 0, 4), 1);
        on.refused("slot(0, 2, -1)", DYING, x -> x.slot(0, 2, -1), 1);
    }

    private static void told(String what, Cases.Run run, int slot, int... want) {
        on.tellsEach(what, run, (x, w) -> x.slot(0, slot, w), want);
    }

    private static void promise9AFullOne() {
        told("FULL, not LIGHT", DYING, 0, 1, NONE, 1, 2);
        told("FULL, LIGHT", DYING, 1, 1, NONE, 0, 1);
    }

    private static void promise9ATurnedOne() {
        told("TURNED", Cases.then(DYING, x -> x.commit(3), x -> x.prune(0)), 0, 2, 1, 1, 1);
    }

    private static void promise9AStub() {
        told("a STUB", Cases.text("begin;insert 2 1 1 1;abort 2;prune 0;"), 0, 3, NONE, 1, 0);
    }

    private static void promise9AnUnusedOne() {
        told("UNUSED", Cases.text("row 1 1 1;begin;update 2 0 1 1 1;abort 2;prune 0;"), 1, 0, NONE, 0, 0);
        told("UNUSED by vacuum()", Cases.text("row 1 1 1;row 1 1 1;begin;delete 2 0;commit 2;vacuum;"), 0, 0, NONE, 0, 0);
    }

    private static void promise9AKilledEntryStillLeadsThere() {
        told("KILLED", Cases.text("begin;insert 2 1 1 1;abort 2;prune 0;begin;look 3 1;"), 0, 3, NONE, 1, 0);
    }

    /** A CHAIN goes on as long as its ENDER is not GONE, in the PAGE, to one that is LIGHT. */
    private static void promise9WhereAChainEnds() {
        told("its ENDER is GONE", Cases.text("row 1 1 1;begin;update 2 0 1 2 1;abort 2;"), 0, 1, NONE, 1, 1);
        told("its ENDER is OPEN", Cases.text("row 1 1 1;begin;update 2 0 1 2 1;"), 0, 1, NONE, 1, 2);
        told("its ENDER is DONE", Cases.text("row 1 1 1;begin;update 2 0 1 2 1;commit 2;"), 0, 1, NONE, 1, 2);
        told("NEXT is not LIGHT", Cases.text("row 1 1 1;begin;update 2 0 2 2 1;"), 0, 1, NONE, 1, 1);
        told("NEXT is in another PAGE, in the same SLOT as a LIGHT one here",
            Cases.text("units 32;row 1 1 10;row 1 1 20;row 3 1 3;row 3 1 3;row 3 1 3;row 2 1 1;begin;update 2 5 2 1 1;update 2 0 1 1 9;"), 0, 1, NONE, 1, 1);
        told("deleted: no NEXT", Cases.text("row 1 1 1;begin;delete 2 0;"), 0, 1, NONE, 1, 1);
    }

    /** The version at NEXT went, and another row's is there: its MAKER is not that ENDER. */
    private static void promise9ASlotThatWasUsedAgainIsNotInTheChain() {
        String text = "row 1 1 1;row 2 2 2;begin;begin;update 2 0 1 2 1;abort 2;prune 0;update 3 1 2 3 1;";
        told("ENDER GONE", Cases.text(text), 0, 1, NONE, 1, 1);
        told("its own", Cases.text(text), 1, 1, NONE, 1, 2);
        Cases.Run run = Cases.text(text + "delete 3 0;");
        told("another ENDER, without NEXT", run, 0, 1, NONE, 1, 1);
    }

    private static void promise9AChainOfTen() {
        Cases.Run run = Cases.text("row 1 1 1;begin;" + "update 2 0 1 1 1;".repeat(9));
        told("ten", run, 0, 1, NONE, 1, 10);
        told("the last", run, 9, 1, NONE, 0, 1);
    }

    // ---- promise 10: version

    private static void promise10PagesFrom0To5() {
        Cases.Run run = Cases.text("units 32;" + "row 1 1 20;".repeat(6));
        on.refused("version(-1, 0, 0)", run, x -> x.version(-1, 0, 0), 2);
        on.refused("version(6, 0, 0)", run, x -> x.version(6, 0, 0), 2);
        on.tells("version(5, 0, 0)", run, x -> x.version(5, 0, 0), 5);
        on.tells("version(0, 0, 0)", run, x -> x.version(0, 0, 0), 0);
        on.refusedEach("version(.., 0, 0)", run, (x, p) -> x.version(p, 0, 0), 2, FAR);
    }

    private static void promise10SlotsThatThePageHas() {
        on.refused("version(0, -1, 0)", DYING, x -> x.version(0, -1, 0), 2);
        on.refused("version(0, 2, 0)", DYING, x -> x.version(0, 2, 0), 2);
        on.refused("version(5, 0, 0)", DYING, x -> x.version(5, 0, 0), 2);
        on.refusedEach("version(0, .., 0)", DYING, (x, s) -> x.version(0, s, 0), 2, FAR);
        Cases.Run full = Cases.text("row 1 1 1;".repeat(10));
        on.tells("version(0, 9, 0)", full, x -> x.version(0, 9, 0), 9);
        on.refused("version(0, 10, 0)", full, x -> x.version(0, 10, 0), 2);
    }

    private static void promise10WhatFrom0To11() {
        on.refused("version(0, 0, -1)", DYING, x -> x.version(0, 0, -1), 1);
        on.refused("version(0, 0, 12)", DYING, x -> x.version(0, 0, 12), 1);
        on.refusedEach("version(0, 0, ..)", DYING, (x, w) -> x.version(0, 0, w), 1, FAR);
        on.tellsEach("version(0, 0, ..)", DYING, (x, w) -> x.version(0, 0, w), 0, 1, 10, 4, 1, 2, 0, 1, 0, 0, 0, 1);
        on.tellsEach("version(0, 1, ..)", DYING, (x, w) -> x.version(0, 1, w), 0, 1, 20, 5, 2, NONE, NONE, NONE, 1, 0, 0, 0);
    }

    private static void promise10WhatAheadOfPageAndSlot() {
        on.refused("version(6, 0, 12)", DYING, x -> x.version(6, 0, 12), 1);
        on.refused("version(0, 2, -1)", DYING, x -> x.version(0, 2, -1), 1);
        Cases.Run stub = Cases.text("begin;insert 2 1 1 1;abort 2;prune 0;");
        on.refused("of a STUB", stub, x -> x.version(0, 0, 12), 1);
        on.refused("of a STUB", stub, x -> x.version(0, 1, 0), 2);
    }

    private static void promise10SlotsWithoutAVersion() {
        on.refused("TURNED", Cases.then(DYING, x -> x.commit(3), x -> x.prune(0)), x -> x.version(0, 0, 0), 5);
        on.refused("a STUB", Cases.text("begin;insert 2 1 1 1;abort 2;prune 0;"), x -> x.version(0, 0, 0), 5);
        on.refused("UNUSED", Cases.text("row 1 1 1;begin;update 2 0 1 1 1;abort 2;prune 0;"), x -> x.version(0, 1, 11), 5);
    }

    private static void promise10AnEnderThatIsGoneIsStillTold() {
        Cases.Run run = Cases.text("row 1 1 1;begin;update 2 0 1 2 1;abort 2;");
        int[] version = {0, 1, 1, 1, 1, 2, 0, 1, 0, 0, 0, 0};
        on.tellsEach("version(0, 0, ..)", run, (x, w) -> x.version(0, 0, w), version);
        on.tellsEach("behind prune()", Cases.then(run, x -> x.prune(0)), (x, w) -> x.version(0, 0, w), version);
        on.good("another ENDER", Cases.then(run, RowPruner::begin, x -> x.delete(3, 0)), x -> x.version(0, 0, 5), 3);
        on.good("no NEXT", Cases.then(run, RowPruner::begin, x -> x.delete(3, 0)), x -> x.version(0, 0, 7), NONE);
    }

    private static void promise10NextInTheLastPage() {
        Cases.Run run = Cases.text("units 32;row 1 1 20;row 1 1 12;" + "row 1 1 20;row 1 1 12;".repeat(4) + "row 2 1 1;begin;update 2 0 1 2 5;");
        on.good("PAGE of NEXT", run, x -> x.version(0, 0, 6), 5);
        on.good("SLOT of NEXT", run, x -> x.version(0, 0, 7), 1);
        on.good("not LIGHT though it has that KEY", run, x -> x.version(5, 1, 8), 0);
    }

    private static void promise10TheEndsOfKeyValueSize() {
        Cases.Run run = Cases.text("row 99 999 20;row 0 0 1;");
        on.tellsEach("most", run, (x, w) -> x.version(0, 0, w), 0, 99, 999, 20);
        on.tellsEach("least", run, (x, w) -> x.version(0, 1, w), 1, 0, 0, 1);
    }

    // ---- promise 11: entry

    private static void promise11IBelow0() {
        on.refused("entry(-1, 0)", DYING, x -> x.entry(-1, 0), 1);
        on.refused("entry(least, 0)", DYING, x -> x.entry(Integer.MIN_VALUE, 0), 1);
    }

    private static void promise11FromTheFirstToTheLast() {
        Cases.Run run = Cases.text("row 5 1 1;row 3 1 1;");
        on.tellsEach("entry(0, ..)", run, (x, w) -> x.entry(0, w), 3, 0, 1, 0);
        on.tellsEach("entry(1, ..)", run, (x, w) -> x.entry(1, w), 5, 0, 0, 0);
        on.refused("entry(2, 0)", run, x -> x.entry(2, 0), 5);
        on.refused("entry(most, 0)", run, x -> x.entry(Integer.MAX_VALUE, 0), 5);
        on.refused("entry(0, 0) of none", Cases.NEW, x -> x.entry(0, 0), 5);
    }

    private static void promise11SixtyEntries() {
        on.good("entry(58, 1)", States.NEARLY_FULL_INDEX, x -> x.entry(58, 1), 5);
        on.refused("entry(59, 1) of 59", States.NEARLY_FULL_INDEX, x -> x.entry(59, 1), 5);
        on.good("entry(59, 1)", States.FULL_INDEX, x -> x.entry(59, 1), 5);
        on.good("entry(59, 2)", States.FULL_INDEX, x -> x.entry(59, 2), 9);
        on.refused("entry(60, 0)", States.FULL_INDEX, x -> x.entry(60, 0), 5);
    }

    private static void promise11WhatFrom0To3() {
        on.refused("entry(0, -1)", DYING, x -> x.entry(0, -1), 1);
        on.refused("entry(0, 4)", DYING, x -> x.entry(0, 4), 1);
        on.refusedEach("entry(0, ..)", DYING, (x, w) -> x.entry(0, w), 1, FAR);
    }

    private static void promise11WhatAheadOfI() {
        on.refused("entry(1, 4)", DYING, x -> x.entry(1, 4), 1);
        on.refused("entry(0, -1) of none", Cases.NEW, x -> x.entry(0, -1), 1);
    }

    private static void promise11SortedByKeyPageSlot() {
        // Page 0: key 5 in slot 0, key 1 in slot 1; page 1: key 5, key 1; then key 5 again in page 0's slot 2.
        Cases.Run run = Cases.text("units 32;row 5 1 20;row 1 1 10;row 5 1 20;row 1 1 10;row 5 1 2;row 0 1 1;row 99 1 1;");
        on.tellsEach("KEY", run, (x, i) -> x.entry(i, 0), 0, 1, 1, 5, 5, 5, 99);
        on.tellsEach("PAGE", run, (x, i) -> x.entry(i, 1), 1, 0, 1, 0, 0, 1, 1);
        on.tellsEach("SLOT", run, (x, i) -> x.entry(i, 2), 2, 1, 1, 0, 2, 0, 3);
    }

    private static void promise11TheKilledOneKeepsItsPlace() {
        Cases.Run run = Cases.text("row 5 1 1;begin;insert 2 5 1 1;insert 2 5 1 1;abort 2;begin;look 3 5;insert 3 4 1 1;insert 3 5 1 1;");
        on.tellsEach("entry(.., 3)", run, (x, w) -> x.entry(w, 3), 0, 0, 1, 1, 0);
        on.good("they are ENTRIES still", run, x -> x.many(6), 5);
        on.good("till their STUBS are UNUSED", Cases.then(run, RowPruner::vacuum), x -> x.many(6), 3);
    }

    private static void promise11ANewOneIsNotKilled() {
        String killed = "begin;insert 2 5 1 1;abort 2;begin;look 3 5;";
        Cases.Run ahead = Cases.text(killed + "insert 3 4 1 1;");
        on.good("right ahead of a KILLED one", ahead, x -> x.entry(0, 3), 0);
        on.good("the KILLED one", ahead, x -> x.entry(1, 3), 1);
        Cases.Run behind = Cases.text(killed + "insert 3 5 1 1;");
        on.good("the KILLED one", behind, x -> x.entry(0, 3), 1);
        on.good("right behind it", behind, x -> x.entry(1, 3), 0);
        on.good("where a KILLED one was", Cases.text(killed + "vacuum;insert 3 5 1 1;"), x -> x.entry(0, 3), 0);
    }

    // ---- promise 12: txn

    private static void promise12TransactionsFrom1ToTheLast() {
        Cases.Run run = Cases.text("begin;begin;");
        on.refused("txn(0, 0)", run, x -> x.txn(0, 0), 2);
        on.refused("txn(-1, 0)", run, x -> x.txn(-1, 0), 2);
        on.tells("txn(1, 0)", run, x -> x.txn(1, 0), 1);
        on.tells("txn(3, 0)", run, x -> x.txn(3, 0), 0);
        on.refused("txn(4, 0): the next one", run, x -> x.txn(4, 0), 2);
        on.refusedEach("txn(.., 0)", run, (x, t) -> x.txn(t, 0), 2, FAR);
        Cases.Run full = Cases.text("begin;".repeat(59));
        on.good("txn(60, 0)", full, x -> x.txn(60, 0), 0);
        on.refused("txn(61, 0)", full, x -> x.txn(61, 0), 2);
    }

    private static void promise12WhatFrom0To3() {
        Cases.Run run = Cases.text("begin;begin;");
        on.refused("txn(2, -1)", run, x -> x.txn(2, -1), 1);
        on.refused("txn(2, 4)", run, x -> x.txn(2, 4), 1);
        on.refusedEach("txn(2, ..)", run, (x, w) -> x.txn(2, w), 1, FAR);
        on.tellsEach("txn(3, ..)", run, (x, w) -> x.txn(3, w), 0, 2, 1, NONE);
    }

    private static void promise12WhatAheadOfTheTransaction() {
        on.refused("txn(9, 4)", Cases.NEW, x -> x.txn(9, 4), 1);
        on.refused("txn(0, -1)", Cases.NEW, x -> x.txn(0, -1), 1);
        on.refused("txn(1, 4): it has no LOW, either", Cases.NEW, x -> x.txn(1, 4), 1);
    }

    private static void promise12TheTransactionAheadOfItsLow() {
        on.refused("txn(2, 1)", Cases.NEW, x -> x.txn(2, 1), 2);
        on.refused("txn(0, 1)", Cases.NEW, x -> x.txn(0, 1), 2);
    }

    private static void promise12LowOfOneThatIsNotOpen() {
        Cases.Run run = Cases.text("begin;begin;begin;commit 2;abort 3;");
        on.refused("DONE at first", run, x -> x.txn(1, 1), 5);
        on.refused("DONE", run, x -> x.txn(2, 1), 5);
        on.refused("GONE", run, x -> x.txn(3, 1), 5);
        on.tells("OPEN", run, x -> x.txn(4, 1), 2);
        on.tells("GONE", run, x -> x.txn(3, 0), 2);
    }

    private static void promise12LowIsItselfIfItNotedNone() {
        on.tells("2", Cases.text("begin;"), x -> x.txn(2, 1), 2);
        on.tells("3", Cases.text("begin;commit 2;begin;"), x -> x.txn(3, 1), 3);
        on.tells("the least of several", Cases.text("begin;begin;commit 2;begin;begin;"), x -> x.txn(5, 1), 3);
    }

    private static void promise12LowOfThe60th() {
        Cases.Run full = Cases.text("begin;".repeat(59));
        on.good("LOW", full, x -> x.txn(60, 1), 2);
        on.good("HORIZON", full, x -> x.many(5), 2);
        on.good("LOW of itself", x -> {
            for (int t = 2; t < 60; t++) {
                x.begin();
                x.commit(t);
            }
            x.begin();
        }, x -> x.txn(60, 1), 60);
    }

    private static void promise12HowManyItNoted() {
        Cases.Run full = Cases.text("begin;".repeat(59));
        on.good("58", full, x -> x.txn(60, 2), 58);
        on.good("none", full, x -> x.txn(2, 2), 0);
        Cases.Run run = Cases.text("begin;begin;begin;commit 2;abort 3;commit 4;");
        on.good("it stays though they are not OPEN", run, x -> x.txn(4, 2), 2);
        on.good("those that were DONE, GONE are not noted", Cases.then(run, RowPruner::begin), x -> x.txn(5, 2), 0);
    }

    private static void promise12ForWhichItWaits() {
        Cases.Run run = Cases.then(Cases.text("row 1 1 1;begin;begin;begin;delete 2 0;"), x -> x.await(3, 0));
        on.tells("3 waits for 2", run, x -> x.txn(3, 3), 2);
        on.tells("4 doesn't", run, x -> x.txn(4, 3), NONE);
        on.tells("2 doesn't", run, x -> x.txn(2, 3), NONE);
        on.good("2 is DONE", Cases.then(run, x -> x.commit(2)), x -> x.txn(3, 3), NONE);
        on.good("2 is GONE", Cases.then(run, x -> x.abort(2)), x -> x.txn(3, 3), NONE);
        on.good("itself GONE", Cases.then(run, x -> x.abort(3)), x -> x.txn(3, 3), NONE);
        on.good("4 is GONE: it waits still", Cases.then(run, x -> x.abort(4)), x -> x.txn(3, 3), 2);
    }

    // ---- promise 13: knows

    private static void promise13TransactionsFrom1ToTheLast() {
        Cases.Run run = Cases.text("begin;begin;");
        for (int t : new int[] {Integer.MIN_VALUE, -1, 0, 4, 61, 1000, Integer.MAX_VALUE}) {
            on.refused("knows(" + t + ", 1)", run, x -> x.knows(t, 1), 2);
            on.refused("knows(1, " + t + ")", run, x -> x.knows(1, t), 2);
            on.refused("knows of itself, " + t, run, x -> x.knows(t, t), 2);
        }
        on.tells("knows(1, 1)", run, x -> x.knows(1, 1), 1);
        on.tells("knows(3, 3)", run, x -> x.knows(3, 3), 1);
        Cases.Run full = Cases.text("begin;commit 2;" + "begin;".repeat(58));
        on.good("knows(60, 2)", full, x -> x.knows(60, 2), 1);
        on.good("knows(60, 59)", full, x -> x.knows(60, 59), 0);
        on.refused("knows(60, 61)", full, x -> x.knows(60, 61), 2);
    }

    private static void promise13ItselfWhateverItIs() {
        Cases.Run run = Cases.text("begin;begin;begin;commit 2;abort 3;");
        on.tellsEach("knows()", run, (x, t) -> x.knows(t + 1, t + 1), 1, 1, 1, 1);
    }

    private static void promise13OneThatItNotedThoughItIsDoneNow() {
        Cases.Run run = Cases.text("begin;begin;commit 2;begin;");
        on.tells("3 noted 2", run, x -> x.knows(3, 2), 0);
        on.tells("4 did not", run, x -> x.knows(4, 2), 1);
    }

    private static void promise13OneThatIsGoneOrOpen() {
        Cases.Run run = Cases.text("begin;abort 2;begin;begin;");
        on.tells("GONE", run, x -> x.knows(4, 2), 0);
        on.tells("OPEN", run, x -> x.knows(4, 3), 0);
    }

    private static void promise13OneOfAGreaterNumber() {
        Cases.Run run = Cases.text("begin;begin;commit 3;");
        on.tells("knows(2, 3)", run, x -> x.knows(2, 3), 0);
        on.tells("knows(1, 3)", run, x -> x.knows(1, 3), 0);
        on.tells("knows(3, 1)", run, x -> x.knows(3, 1), 1);
    }

    // ---- promise 14: sees

    private static void promise14TransactionsFrom1ToTheLast() {
        for (int t : new int[] {Integer.MIN_VALUE, -1, 0, 4, 61, Integer.MAX_VALUE}) {
            on.refused("sees(" + t + ", 0, 0)", DYING, x -> x.sees(t, 0, 0), 2);
        }
        on.tells("sees(1, 0, 3)", DYING, x -> x.sees(1, 0, 3), 10);
        on.tells("sees(3, 0, 3)", DYING, x -> x.sees(3, 0, 3), 10);
    }

    private static void promise14RowsFrom0ToTheLast() {
        Cases.Run run = Cases.text("row 1 10 1;row 2 20 1;");
        for (int r : new int[] {Integer.MIN_VALUE, -1, 2, 40, Integer.MAX_VALUE}) {
            on.refused("sees(1, " + r + ", 0)", run, x -> x.sees(1, r, 0), 2);
        }
        on.tells("sees(1, 0, 3)", run, x -> x.sees(1, 0, 3), 10);
        on.tells("sees(1, 1, 3)", run, x -> x.sees(1, 1, 3), 20);
        on.refused("no row at all", Cases.NEW, x -> x.sees(1, 0, 0), 2);
        Cases.Run full = Cases.text("row 1 1 1;".repeat(40));
        on.good("the last row", full, x -> x.sees(1, 39, 0), 3);
        on.refused("sees(1, 40, 0)", full, x -> x.sees(1, 40, 0), 2);
    }

    private static void promise14WhatFrom0To3() {
        on.refused("sees(2, 0, -1)", DYING, x -> x.sees(2, 0, -1), 1);
        on.refused("sees(2, 0, 4)", DYING, x -> x.sees(2, 0, 4), 1);
        on.refusedEach("sees(2, 0, ..)", DYING, (x, w) -> x.sees(2, 0, w), 1, FAR);
        on.tellsEach("sees(2, 0, ..)", DYING, (x, w) -> x.sees(2, 0, w), 0, 1, 1, 20);
    }

    private static void promise14WhatAheadOfAllElse() {
        on.refused("sees(9, 0, 4)", DYING, x -> x.sees(9, 0, 4), 1);
        on.refused("sees(2, 9, 4)", DYING, x -> x.sees(2, 9, 4), 1);
        Cases.Run unseen = Cases.text("begin;insert 2 1 1 1;");
        on.refused("unseen", unseen, x -> x.sees(1, 0, -1), 1);
    }

    private static void promise14WhatIsNoneAheadOfWhatIsUnseen() {
        Cases.Run unseen = Cases.text("begin;insert 2 1 1 1;");
        on.refused("unseen", unseen, x -> x.sees(1, 0, 0), 6);
        on.refused("no such row", unseen, x -> x.sees(1, 1, 0), 2);
        on.refused("no such one", unseen, x -> x.sees(3, 0, 0), 2);
    }

    private static void promise14ARowWithoutVersions() {
        Cases.Run run = Cases.text("begin;insert 2 1 1 1;abort 2;vacuum;");
        on.refusedEach("sees(2, 0, ..)", run, (x, w) -> x.sees(2, 0, w), 6, 0, 1, 2, 3);
    }

    private static void promise14TheEnderItselfDoesNotSeeIt() {
        Cases.Run run = Cases.text("row 1 1 1;begin;begin;delete 2 0;");
        on.refused("OPEN", run, x -> x.sees(2, 0, 0), 6);
        on.refused("GONE", Cases.then(run, x -> x.abort(2)), x -> x.sees(2, 0, 0), 6);
        on.refused("DONE", Cases.then(run, x -> x.commit(2)), x -> x.sees(2, 0, 0), 6);
        on.tells("another one", run, x -> x.sees(3, 0, 0), 0);
        on.tells("another one that noted it", Cases.then(run, x -> x.commit(2)), x -> x.sees(3, 0, 0), 0);
        on.tells("another one, of one that is GONE", Cases.then(run, x -> x.abort(2), RowPruner::begin), x -> x.sees(4, 0, 0), 0);
        on.refused("one that knows it", Cases.then(run, x -> x.commit(2), RowPruner::begin), x -> x.sees(4, 0, 0), 6);
    }

    /** A FROZEN version is seen by those that don't know its MAKER, too. */
    private static void promise14AFrozenOne() {
        Cases.Run run = Cases.text("age 0;begin;insert 2 1 10 1;commit 2;");
        on.refused("ahead of it", run, x -> x.sees(1, 0, 0), 6);
        on.tells("FROZEN", Cases.then(run, RowPruner::vacuum), x -> x.sees(1, 0, 3), 10);
        on.refused("with an ENDER that it knows", Cases.then(run, RowPruner::vacuum, RowPruner::begin, x -> x.delete(3, 0)),
            x -> x.sees(3, 0, 0), 6);
    }

    // ---- promise 15: versions

    private static void promise15RowsFrom0ToTheLast() {
        Cases.Run run = Cases.text("row 1 1 1;row 2 2 2;begin;update 2 1 2 3 4;");
        for (int r : new int[] {Integer.MIN_VALUE, -1, 2, 40, Integer.MAX_VALUE}) on.refused("versions(" + r + ")", run, x -> x.versions(r), 2);
        on.tells("versions(0)", run, x -> x.versions(0), 1);
        on.tells("versions(1)", run, x -> x.versions(1), 2);
        on.refused("no row at all", Cases.NEW, x -> x.versions(0), 2);
        Cases.Run full = Cases.text("row 1 1 1;".repeat(40));
        on.good("versions(39)", full, x -> x.versions(39), 1);
        on.refused("versions(40)", full, x -> x.versions(40), 2);
    }

    private static void promise15NoneIsLeft() {
        on.tells("pruned", Cases.text("begin;insert 2 1 1 1;abort 2;prune 0;"), x -> x.versions(0), 0);
        on.tells("DEAD ones are there", Cases.text("begin;insert 2 1 1 1;abort 2;"), x -> x.versions(0), 1);
    }

    private static void promise15AllInOnePageAndMore() {
        on.tells("ten", Cases.text("row 1 1 1;begin;" + "update 2 0 1 1 1;".repeat(9)), x -> x.versions(0), 10);
        on.tells("eleven", Cases.text("row 1 1 1;begin;" + "update 2 0 1 1 1;".repeat(10)), x -> x.versions(0), 11);
    }

    // ---- promise 16: trail

    private static void promise16IBelow0() {
        on.refused("trail(0, -1, 0)", DYING, x -> x.trail(0, -1, 0), 1);
        on.refused("trail(0, least, 0)", DYING, x -> x.trail(0, Integer.MIN_VALUE, 0), 1);
    }

    private static void promise16FromTheFirstToTheLast() {
        on.tells("trail(0, 0, 1)", DYING, x -> x.trail(0, 0, 1), 0);
        on.tells("trail(0, 1, 1)", DYING, x -> x.trail(0, 1, 1), 1);
        on.refused("trail(0, 2, 1)", DYING, x -> x.trail(0, 2, 1), 5);
        on.refused("trail(0, most, 0)", DYING, x -> x.trail(0, Integer.MAX_VALUE, 0), 5);
    }

    private static void promise16WhatFrom0To1() {
        on.refused("trail(0, 0, -1)", DYING, x -> x.trail(0, 0, -1), 1);
        on.refused("trail(0, 0, 2)", DYING, x -> x.trail(0, 0, 2), 1);
        on.refusedEach("trail(0, 0, ..)", DYING, (x, w) -> x.trail(0, 0, w), 1, FAR);
        Cases.Run run = Cases.text("units 32;row 1 1 20;row 1 1 5;row 1 1 1;row 1 1 20;row 2 2 2;");
        on.tells("PAGE", run, x -> x.trail(4, 0, 0), 0);
        on.tells("SLOT", run, x -> x.trail(4, 0, 1), 3);
        on.tells("PAGE", run, x -> x.trail(3, 0, 0), 1);
        on.tells("SLOT", run, x -> x.trail(3, 0, 1), 0);
    }

    private static void promise16RowsFrom0ToTheLast() {
        for (int r : new int[] {Integer.MIN_VALUE, -1, 1, 40, Integer.MAX_VALUE}) on.refused("trail(" + r + ", 0, 0)", DYING, x -> x.trail(r, 0, 0), 2);
    }

    private static void promise16NumbersAheadOfTheRow() {
        on.refused("trail(1, -1, 0)", DYING, x -> x.trail(1, -1, 0), 1);
        on.refused("trail(-1, 0, 2)", DYING, x -> x.trail(-1, 0, 2), 1);
        on.refused("trail(0, 2, 2): there is none, either", DYING, x -> x.trail(0, 2, 2), 1);
    }

    private static void promise16TheRowAheadOfI() {
        on.refused("trail(1, 9, 0)", DYING, x -> x.trail(1, 9, 0), 2);
    }

    private static void promise16ARowWithoutVersions() {
        on.refused("trail(0, 0, 0)", Cases.text("begin;insert 2 1 1 1;abort 2;prune 0;"), x -> x.trail(0, 0, 0), 5);
    }

    /** They are told as they were made, wherever they are, and when they were made stays as all is laid anew. */
    private static void promise16AsTheyWereMade() {
        Cases.Run run = Cases.text("row 9 1 1;row 1 1 1;begin;delete 2 0;commit 2;vacuum;begin;update 3 1 1 2 1;commit 3;");
        on.good("made first", run, x -> x.trail(1, 0, 1), 1);
        on.good("made then, in the slot ahead", run, x -> x.trail(1, 1, 1), 0);
        Cases.Run anew = Cases.then(run, RowPruner::repack, RowPruner::begin, x -> x.update(4, 1, 9, 3, 1), x -> x.update(4, 1, 9, 4, 1));
        on.tellsEach("SLOT", anew, (x, i) -> x.trail(1, i, 1), 0, 1, 2);
    }

    // ---- promise 17: event

    /** As many events as are wanted: of 2, 3, .. as they are DONE. */
    private static Cases.Run events(int many) {
        return x -> {
            for (int t = 2; t < many + 2; t++) {
                x.begin();
                x.commit(t);
            }
        };
    }

    private static void promise17IFrom0To23() {
        on.refused("event(-1, 0)", events(24), x -> x.event(-1, 0), 1);
        on.refused("event(24, 0)", events(24), x -> x.event(24, 0), 1);
        on.refused("event(24, 0) of more", events(30), x -> x.event(24, 0), 1);
        on.refused("event(24, 0) of none", Cases.NEW, x -> x.event(24, 0), 1);
        for (int i : FAR) on.refused("event(" + i + ", 0)", events(24), x -> x.event(i, 0), 1);
        on.tells("event(0, 1)", events(24), x -> x.event(0, 1), 25);
        on.tells("event(23, 1)", events(24), x -> x.event(23, 1), 2);
    }

    private static void promise17WhatFrom0To1() {
        on.refused("event(0, -1)", events(1), x -> x.event(0, -1), 1);
        on.refused("event(0, 2)", events(1), x -> x.event(0, 2), 1);
        for (int w : FAR) on.refused("event(0, " + w + ")", events(1), x -> x.event(0, w), 1);
        on.tells("event(0, 0)", events(1), x -> x.event(0, 0), 6);
        on.tells("event(0, 1)", events(1), x -> x.event(0, 1), 2);
    }

    private static void promise17NumbersAheadOfWhatIsNotThere() {
        on.refused("event(1, 2)", events(1), x -> x.event(1, 2), 1);
        on.refused("event(0, -1) of none", Cases.NEW, x -> x.event(0, -1), 1);
    }

    private static void promise17NotSoMany() {
        on.refused("event(0, 0) of none", Cases.NEW, x -> x.event(0, 0), 5);
        on.refused("event(23, 0) of none", Cases.NEW, x -> x.event(23, 0), 5);
        on.refused("event(1, 0) of one", events(1), x -> x.event(1, 0), 5);
        on.tells("event(22, 1) of 23", events(23), x -> x.event(22, 1), 2);
        on.refused("event(23, 1) of 23", events(23), x -> x.event(23, 1), 5);
    }

    private static void promise17TheLatest24() {
        on.tells("event(23, 1) of 25", events(25), x -> x.event(23, 1), 3);
        on.tells("event(0, 1) of 25", events(25), x -> x.event(0, 1), 26);
        on.tells("event(23, 1) of 59", events(59), x -> x.event(23, 1), 37);
    }

    private static void told(String what, String text, int... kindsAndNumbers) {
        RowPruner x = Due.loaded(text);
        for (int i = 0; i * 2 < kindsAndNumbers.length; i++) {
            due.good(what + ": kind of event " + i, x, x.event(i, 0), kindsAndNumbers[2 * i]);
            due.good(what + ": number of event " + i, x, x.event(i, 1), kindsAndNumbers[2 * i + 1]);
        }
        int many = kindsAndNumbers.length / 2;
        if (many < 24) due.refused(what + ": one more", x, x.event(many, 0), 5);
    }

    private static void promise17APageIsPrunedAndVersionsGo() {
        String five = "units 32;" + "row 1 1 20;".repeat(6) + "begin;delete 2 5;commit 2;";
        told("of page 5, as its PRUNING ends", five + "prune 5;", 0, 5, 1, 50, 6, 2);
        told("none goes", five + "prune 4;", 6, 2);
        told("a LIGHT one alone", "row 1 1 1;begin;update 2 0 1 1 1;abort 2;prune 0;", 0, 0, 7, 2);
    }

    private static void promise17ASlotIsAStub() {
        String ten = "row 1 1 1;".repeat(10);
        told("slot 9", ten + "begin;delete 2 9;delete 2 0;commit 2;prune 0;", 0, 0, 1, 9, 1, 0, 6, 2);
        told("it is one already", ten + "begin;delete 2 9;commit 2;prune 0;prune 0;", 0, 0, 1, 9, 6, 2);
    }

    private static void promise17ASlotIsTurned() {
        String text = "row 1 1 1;row 2 2 2;begin;update 2 1 2 3 3;commit 2;prune 0;";
        told("TURNED", text, 0, 0, 2, 1, 6, 2);
        told("anew", text + "begin;update 3 1 2 4 4;commit 3;prune 0;", 0, 0, 2, 1, 6, 3, 0, 0, 2, 1, 6, 2);
        told("a STUB then", text + "begin;delete 3 1;commit 3;prune 0;", 0, 0, 1, 1, 6, 3, 0, 0, 2, 1, 6, 2);
    }

    private static void promise17AnEntryIsKilled() {
        told("its KEY", "begin;insert 2 99 1 1;insert 2 0 1 1;abort 2;begin;look 3 99;look 3 0;look 3 99;", 3, 0, 3, 99, 7, 2);
    }

    private static void promise17APass() {
        told("how many ENTRIES go", "batch 2;row 1 1 1;row 2 1 1;row 3 1 1;begin;delete 2 0;delete 2 1;delete 2 2;commit 2;vacuum;",
            4, 1, 4, 2, 0, 0, 1, 2, 1, 1, 1, 0, 6, 2);
    }

    private static void promise17AVersionIsFrozen() {
        told("its ROW", "age 0;row 5 1 1;row 4 1 1;vacuum;vacuum;", 5, 1, 5, 0);
    }

    private static void promise17DoneAndGone() {
        told("the TRANSACTION", "begin;begin;begin;commit 3;abort 2;commit 4;", 6, 4, 7, 2, 6, 3);
    }

    private static void promise17LoadAndRepackTellNone() {
        told("rows, repack", "row 1 1 1;row 2 2 2;repack;");
    }
}
