/** The boundary cases of promises 18 to 24, each in a case of its own: what transactions do. */
final class BoundsDoTest {
    private static final Cases on = new Cases(BoundsDoTest.class, 18, 24);
    private static final Due due = on.due;
    private static final int NONE = RowPruner.NONE;
    /** Pages of 32 UNITS with one row of 20 each; page 0 has a DEAD one of 1 besides; 3 is OPEN. */
    private static final Cases.Run NO_PLACE = Cases.text("units 32;" + "row 1 1 20;".repeat(6) + "row 2 1 1;begin;delete 2 6;commit 2;begin;");

    public static void main(String[] args) {
        on.runAll();
    }

    // ---- promise 18: begin

    private static void promise18TheSixtiethAndNoMore() {
        on.good("the 59th", Cases.text("begin;".repeat(57)), RowPruner::begin, 59);
        on.good("the 60th", Cases.text("begin;".repeat(58)), RowPruner::begin, 60);
        on.refused("a 61st", Cases.text("begin;".repeat(59)), RowPruner::begin, 3);
    }

    private static void promise18ThoseThatAreNotOpenCountToo() {
        Cases.Run run = x -> {
            for (int t = 2; t <= 60; t++) {
                x.begin();
                x.commit(t);
            }
        };
        on.refused("a 61st though none is OPEN", run, RowPruner::begin, 3);
    }

    private static void promise18TheFirstIs2() {
        on.good("begin()", Cases.NEW, RowPruner::begin, 2);
        on.good("behind load()", Cases.text("row 1 1 1;"), RowPruner::begin, 2);
    }

    private static void promise18ItNotesThoseThatAreOpenAndNotItself() {
        on.good("none", Cases.text("begin;"), x -> x.txn(2, 2), 0);
        on.good("one", Cases.text("begin;begin;"), x -> x.txn(3, 2), 1);
        on.good("neither DONE nor GONE", Cases.text("begin;begin;commit 2;abort 3;begin;"), x -> x.txn(4, 2), 0);
        on.good("those that WAIT, too", Cases.then(States.WAITING, RowPruner::begin), x -> x.txn(5, 2), 3);
    }

    private static void promise18ItIsOpenAndWaitsForNone() {
        on.good("OPEN", Cases.text("begin;"), x -> x.txn(2, 0), 0);
        on.good("for none", Cases.text("begin;"), x -> x.txn(2, 3), NONE);
        on.refused("no EVENT", Cases.text("begin;"), x -> x.event(0, 0), 5);
    }

    // ---- promise 19: commit

    private static void promise19NoSuchOne() {
        on.refusedEach("commit(..)", States.HELD, (x, t) -> x.commit(t), 2, States.noTxns());
        on.refused("commit(61)", Cases.text("begin;".repeat(59)), x -> x.commit(61), 2);
        on.good("commit(60)", Cases.text("begin;".repeat(59)), x -> x.commit(60), 2);
    }

    private static void promise19NotOpen() {
        on.refused("commit(1)", States.HELD, x -> x.commit(1), 4);
        on.refused("a DONE one", States.ENDED, x -> x.commit(3), 4);
        on.refused("a GONE one", States.ENDED, x -> x.commit(2), 4);
    }

    private static void promise19OneThatWaits() {
        on.refused("commit(4)", States.WAITING, x -> x.commit(4), 11);
        on.good("it waits no more", Cases.then(States.WAITING, x -> x.abort(2)), x -> x.commit(4), 2);
    }

    private static void promise19TheHorizonThen() {
        on.good("none is OPEN", Cases.text("begin;"), x -> x.commit(2), 3);
        on.good("the last of 60", Cases.then(Cases.NEW, Cases.times(59, RowPruner::begin)), x -> {
            for (int t = 2; t < 60; t++) x.commit(t);
            return x.commit(60);
        }, 61);
        on.good("one that noted it", Cases.text("begin;begin;"), x -> x.commit(2), 2);
        on.good("one that it noted", Cases.text("begin;begin;"), x -> x.commit(3), 2);
    }

    private static void promise19ItIsDoneAndTold() {
        Cases.Run run = Cases.then(States.HELD, x -> x.commit(2));
        on.good("DONE", run, x -> x.txn(2, 0), 1);
        on.good("kind", run, x -> x.event(0, 0), 6);
        on.good("number", run, x -> x.event(0, 1), 2);
        on.refused("the only EVENT", run, x -> x.event(1, 0), 5);
    }

    private static void promise19AllThatWaitForItDoNoMore() {
        Cases.Run run = Cases.then(States.HELD, RowPruner::begin, x -> x.await(4, 0), x -> x.await(5, 0), RowPruner::begin, x -> x.await(6, 1));
        on.good("three WAIT", run, x -> x.many(16), 3);
        Cases.Run done = Cases.then(run, x -> x.commit(2));
        on.good("one WAITS still", done, x -> x.many(16), 1);
        on.good("for 3", done, x -> x.txn(6, 3), 3);
        on.good("4 can do something", done, x -> x.commit(4), 2);
    }

    // ---- promise 20: abort

    private static void promise20NoSuchOne() {
        on.refusedEach("abort(..)", States.HELD, (x, t) -> x.abort(t), 2, States.noTxns());
        on.refused("abort(61)", Cases.text("begin;".repeat(59)), x -> x.abort(61), 2);
        on.good("abort(60)", Cases.text("begin;".repeat(59)), x -> x.abort(60), 2);
    }

    private static void promise20NotOpen() {
        on.refused("abort(1)", States.HELD, x -> x.abort(1), 4);
        on.refused("a DONE one", States.ENDED, x -> x.abort(3), 4);
        on.refused("a GONE one", States.ENDED, x -> x.abort(2), 4);
    }

    private static void promise20OneThatWaits() {
        on.good("abort(4)", States.WAITING, x -> x.abort(4), 2);
        on.good("it waits no more", Cases.then(States.WAITING, x -> x.abort(4)), x -> x.many(16), 0);
        on.good("2 blocks none", Cases.then(States.WAITING, x -> x.abort(4)), x -> x.blocks(2), 0);
    }

    private static void promise20TheHorizonThen() {
        on.good("none is OPEN", Cases.text("begin;"), x -> x.abort(2), 3);
        on.good("one that noted it", Cases.text("begin;begin;"), x -> x.abort(2), 2);
        on.good("one that began behind it", Cases.text("begin;begin;commit 2;begin;"), x -> x.abort(3), 3);
    }

    private static void promise20ItIsGoneAndTold() {
        Cases.Run run = Cases.then(States.HELD, x -> x.abort(2));
        on.good("GONE", run, x -> x.txn(2, 0), 2);
        on.good("kind", run, x -> x.event(0, 0), 7);
        on.good("number", run, x -> x.event(0, 1), 2);
        on.refused("the only EVENT", run, x -> x.event(1, 0), 5);
    }

    private static void promise20AllThatWaitForItDoNoMore() {
        Cases.Run run = Cases.then(States.HELD, RowPruner::begin, x -> x.await(4, 0), x -> x.await(5, 0), RowPruner::begin, x -> x.await(6, 1));
        Cases.Run gone = Cases.then(run, x -> x.abort(2));
        on.good("one WAITS still", gone, x -> x.many(16), 1);
        on.good("4 can end the row", gone, x -> x.delete(4, 0), 1);
    }

    // ---- promise 21: insert

    private static void promise21KeyFrom0To99() {
        Cases.Run run = Cases.text("begin;");
        on.good("0", run, x -> x.insert(2, 0, 1, 1), 0);
        on.good("99", run, x -> x.insert(2, 99, 1, 1), 0);
        on.refused("-1", run, x -> x.insert(2, -1, 1, 1), 1);
        on.refused("100", run, x -> x.insert(2, 100, 1, 1), 1);
        on.refused("least", run, x -> x.insert(2, Integer.MIN_VALUE, 1, 1), 1);
        on.refused("most", run, x -> x.insert(2, Integer.MAX_VALUE, 1, 1), 1);
    }

    private static void promise21ValueFrom0To999() {
        Cases.Run run = Cases.text("begin;");
        on.good("0", run, x -> x.insert(2, 1, 0, 1), 0);
        on.good("999", run, x -> x.insert(2, 1, 999, 1), 0);
        on.refused("-1", run, x -> x.insert(2, 1, -1, 1), 1);
        on.refused("1000", run, x -> x.insert(2, 1, 1000, 1), 1);
        on.refused("least", run, x -> x.insert(2, 1, Integer.MIN_VALUE, 1), 1);
        on.refused("most", run, x -> x.insert(2, 1, Integer.MAX_VALUE, 1), 1);
    }

    private static void promise21SizeFrom1To20() {
        Cases.Run run = Cases.text("begin;");
        on.good("1", run, x -> x.insert(2, 1, 1, 1), 0);
        on.good("20", run, x -> x.insert(2, 1, 1, 20), 0);
        on.refused("0", run, x -> x.insert(2, 1, 1, 0), 1);
        on.refused("-1", run, x -> x.insert(2, 1, 1, -1), 1);
        on.refused("21", run, x -> x.insert(2, 1, 1, 21), 1);
        on.refused("least", run, x -> x.insert(2, 1, 1, Integer.MIN_VALUE), 1);
        on.refused("most", run, x -> x.insert(2, 1, 1, Integer.MAX_VALUE), 1);
    }

    private static void promise21NoSuchOne() {
        on.refusedEach("insert(..)", States.HELD, (x, t) -> x.insert(t, 1, 1, 1), 2, States.noTxns());
    }

    private static void promise21FortyRows() {
        Cases.Run run = Cases.text("row 1 1 1;".repeat(39) + "begin;");
        on.good("the 40th", run, x -> x.insert(2, 1, 1, 1), 39);
        on.refused("a 41st", Cases.then(run, x -> x.insert(2, 1, 1, 1)), x -> x.insert(2, 1, 1, 1), 3);
    }

    private static void promise21RowsThatAreNoMoreCountToo() {
        Cases.Run run = Cases.then(Cases.text("begin;" + "insert 2 1 1 1;".repeat(40) + "abort 2;vacuum;begin;"));
        on.good("no VERSIONS", run, x -> x.many(7), 0);
        on.refused("a 41st", run, x -> x.insert(3, 1, 1, 1), 3);
    }

    private static void promise21SixtyEntries() {
        on.good("the 60th", States.NEARLY_FULL_INDEX, x -> x.insert(2, 1, 1, 1), 30);
        on.refused("a 61st", States.FULL_INDEX, x -> x.insert(2, 1, 1, 1), 3);
    }

    private static void promise21NotOpen() {
        on.refused("insert(1, ..)", States.ENDED, x -> x.insert(1, 1, 1, 1), 4);
        on.refused("a GONE one", States.ENDED, x -> x.insert(2, 1, 1, 1), 4);
        on.refused("a DONE one", States.ENDED, x -> x.insert(3, 1, 1, 1), 4);
    }

    private static void promise21OneThatWaits() {
        on.refused("insert(4, ..)", States.WAITING, x -> x.insert(4, 1, 1, 1), 11);
        on.good("it waits no more", Cases.then(States.WAITING, x -> x.commit(2)), x -> x.insert(4, 1, 1, 1), 2);
    }

    private static void promise21AsMuchAsIsFree() {
        on.good("12 of 12", NO_PLACE, x -> x.insert(3, 1, 1, 12), 7);
        on.good("in page 1: page 0 has 11", Cases.then(NO_PLACE, x -> x.insert(3, 1, 1, 12)), x -> x.trail(7, 0, 0), 1);
        on.good("in page 0", Cases.then(NO_PLACE, x -> x.insert(3, 1, 1, 11)), x -> x.trail(7, 0, 0), 0);
        on.refused("13 of 12", NO_PLACE, x -> x.insert(3, 1, 1, 13), 5);
        Cases.Run full = Cases.then(NO_PLACE, Cases.times(5, x -> x.insert(3, 1, 1, 12)));
        on.good("the last 11", full, x -> x.insert(3, 1, 1, 11), 12);
        on.refused("1 of 0: it prunes nothing", Cases.then(full, x -> x.insert(3, 1, 1, 11)), x -> x.insert(3, 1, 1, 1), 5);
    }

    private static void promise21TheFirstPageAndThePageBehindIt() {
        Cases.Run ten = Cases.text("row 1 1 1;".repeat(9) + "begin;");
        on.good("a tenth SLOT", Cases.then(ten, x -> x.insert(2, 1, 1, 1)), x -> x.trail(9, 0, 1), 9);
        Cases.Run more = Cases.then(ten, x -> x.insert(2, 1, 1, 1), x -> x.insert(2, 1, 1, 1));
        on.good("no eleventh", more, x -> x.trail(10, 0, 0), 1);
        on.good("the first SLOT there", more, x -> x.trail(10, 0, 1), 0);
    }

    private static void promise21TheFirstUnusedSlot() {
        Cases.Run run = Cases.text("row 1 1 1;".repeat(10) + "begin;delete 2 3;delete 2 7;commit 2;vacuum;begin;insert 3 1 1 1;insert 3 1 1 1;insert 3 1 1 1;");
        on.good("slot 3", run, x -> x.trail(10, 0, 1), 3);
        on.good("slot 7", run, x -> x.trail(11, 0, 1), 7);
        on.good("page 1", run, x -> x.trail(12, 0, 0), 1);
    }

    private static void promise21StubsAndTurnedOnesAreNotUsed() {
        Cases.Run run = Cases.text("row 1 1 1;".repeat(9) + "begin;delete 2 3;update 2 4 1 1 1;commit 2;prune 0;begin;");
        on.good("page 1", Cases.then(run, x -> x.insert(3, 1, 1, 1)), x -> x.trail(9, 0, 0), 1);
    }

    private static void promise21ItIsNotLightAndHasAnEntry() {
        Cases.Run run = Cases.text("begin;insert 2 7 8 9;");
        on.tellsEach("version()", run, (x, w) -> x.version(0, 0, w), 0, 7, 8, 9, 2, NONE, NONE, NONE, 0, 0, 0, 0);
        on.good("an ENTRY", run, x -> x.entry(0, 0), 7);
        on.good("not KILLED", run, x -> x.entry(0, 3), 0);
        on.refused("no EVENT", run, x -> x.event(0, 0), 5);
    }

    private static void promise21NumbersAheadOfAllElse() {
        on.refused("1, 2", States.HELD, x -> x.insert(9, 100, 1, 1), 1);
        on.refused("1, 3", States.FULL_INDEX, x -> x.insert(2, 1, 1000, 1), 1);
        on.refused("1, 4", States.ENDED, x -> x.insert(2, 1, 1, 0), 1);
        on.refused("1, 5", NO_PLACE, x -> x.insert(3, 100, 1, 20), 1);
        on.refused("1, 11", States.WAITING, x -> x.insert(4, 1, 1, 21), 1);
    }

    private static void promise21NoSuchOneAheadOfTooMany() {
        on.refused("2, 3: ENTRIES", States.FULL_INDEX, x -> x.insert(4, 1, 1, 1), 2);
        on.refused("2, 3: ROWS", Cases.text("row 1 1 1;".repeat(40)), x -> x.insert(2, 1, 1, 1), 2);
        on.refused("2, 5", NO_PLACE, x -> x.insert(4, 1, 1, 20), 2);
    }

    private static void promise21TooManyAheadOfWhatTheTransactionIs() {
        on.refused("3, 4: ENTRIES", States.FULL_INDEX, x -> x.insert(1, 1, 1, 1), 3);
        on.refused("3, 4: ROWS", Cases.text("row 1 1 1;".repeat(40)), x -> x.insert(1, 1, 1, 1), 3);
        Cases.Run waiting = Cases.then(Cases.text("row 1 1 1;".repeat(40) + "begin;begin;delete 2 0;"), x -> x.await(3, 0));
        on.refused("3, 11: ROWS", waiting, x -> x.insert(3, 1, 1, 1), 3);
        on.refused("3, 11: ENTRIES", Cases.then(States.FULL_INDEX, x -> x.await(3, 0)), x -> x.insert(3, 1, 1, 1), 3);
    }

    private static void promise21TooManyAheadOfNoPlace() {
        on.refused("3, 5: ENTRIES", States.FULL_INDEX, x -> x.insert(2, 1, 1, 20), 3);
        // 39 rows leave no page with 20 units, a fortieth goes somewhere.
        Cases.Run rows = Cases.text("units 32;" + "row 1 1 4;".repeat(38) + "row 1 1 13;row 1 1 1;begin;");
        on.good("40 rows", rows, x -> x.many(3), 40);
        on.refused("3, 5: ROWS", rows, x -> x.insert(2, 1, 1, 20), 3);
    }

    private static void promise21NotOpenAndWaitingAheadOfNoPlace() {
        on.refused("4, 5", NO_PLACE, x -> x.insert(2, 1, 1, 20), 4);
        Cases.Run waiting = Cases.then(NO_PLACE, RowPruner::begin, x -> x.delete(3, 0), x -> x.await(4, 0));
        on.refused("11, 5", waiting, x -> x.insert(4, 1, 1, 20), 11);
    }

    // ---- promise 22: update

    private static void promise22KeyFrom0To99() {
        Cases.Run run = Cases.text("row 1 1 1;begin;");
        on.good("0", run, x -> x.update(2, 0, 0, 1, 1), 0);
        on.good("99", run, x -> x.update(2, 0, 99, 1, 1), 0);
        on.refused("-1", run, x -> x.update(2, 0, -1, 1, 1), 1);
        on.refused("100", run, x -> x.update(2, 0, 100, 1, 1), 1);
        on.refused("least", run, x -> x.update(2, 0, Integer.MIN_VALUE, 1, 1), 1);
        on.refused("most", run, x -> x.update(2, 0, Integer.MAX_VALUE, 1, 1), 1);
    }

    private static void promise22ValueFrom0To999() {
        Cases.Run run = Cases.text("row 1 1 1;begin;");
        on.good("0", run, x -> x.update(2, 0, 1, 0, 1), 1);
        on.good("999", run, x -> x.update(2, 0, 1, 999, 1), 1);
        on.refused("-1", run, x -> x.update(2, 0, 1, -1, 1), 1);
        on.refused("1000", run, x -> x.update(2, 0, 1, 1000, 1), 1);
        on.refused("least", run, x -> x.update(2, 0, 1, Integer.MIN_VALUE, 1), 1);
        on.refused("most", run, x -> x.update(2, 0, 1, Integer.MAX_VALUE, 1), 1);
    }

    private static void promise22SizeFrom1To20() {
        Cases.Run run = Cases.text("row 1 1 1;begin;");
        on.good("1", run, x -> x.update(2, 0, 1, 1, 1), 1);
        on.good("20", run, x -> x.update(2, 0, 1, 1, 20), 1);
        on.refused("0", run, x -> x.update(2, 0, 1, 1, 0), 1);
        on.refused("-1", run, x -> x.update(2, 0, 1, 1, -1), 1);
        on.refused("21", run, x -> x.update(2, 0, 1, 1, 21), 1);
        on.refused("least", run, x -> x.update(2, 0, 1, 1, Integer.MIN_VALUE), 1);
        on.refused("most", run, x -> x.update(2, 0, 1, 1, Integer.MAX_VALUE), 1);
    }

    private static void promise22NoSuchOneNoSuchRow() {
        on.refusedEach("update(.., 0, ..)", States.HELD, (x, t) -> x.update(t, 0, 1, 1, 1), 2, States.noTxns());
        on.refusedEach("update(4, .., ..)", States.HELD, (x, r) -> x.update(4, r, 1, 1, 1), 2, States.noRows());
    }

    private static void promise22NotOpen() {
        on.refusedEach("update()", States.ENDED, (x, t) -> x.update(t, 0, 1, 1, 1), 4, 1, 2, 3);
    }

    private static void promise22OneThatWaits() {
        on.refused("update(4, ..)", Cases.then(States.WAITING, x -> x.insert(2, 1, 1, 1)), x -> x.update(4, 1, 1, 1, 1), 11);
    }

    private static void promise22Unseen() {
        on.refused("its own, deleted", States.HELD, x -> x.update(2, 0, 1, 1, 1), 6);
        on.refused("another one's", Cases.text("begin;begin;insert 2 1 1 1;"), x -> x.update(3, 0, 1, 1, 1), 6);
        on.refused("another one's that it noted", Cases.text("begin;begin;insert 2 1 1 1;commit 2;"), x -> x.update(3, 0, 1, 1, 1), 6);
        on.refused("none is left", Cases.text("begin;insert 2 1 1 1;abort 2;vacuum;begin;"), x -> x.update(3, 0, 1, 1, 1), 6);
    }

    private static void promise22AnotherOneThatIsOpenIsTheEnder() {
        on.refused("update(4, 0, ..)", States.HELD, x -> x.update(4, 0, 1, 1, 1), 7);
        on.refused("one of a greater number", Cases.text("row 1 1 1;begin;begin;delete 3 0;"), x -> x.update(2, 0, 1, 1, 1), 7);
    }

    private static void promise22AnotherOneThatIsDoneIs() {
        on.refused("update(4, 1, ..)", States.ENDED, x -> x.update(4, 1, 1, 1, 1), 8);
        on.refused("one of a greater number", Cases.text("row 1 1 1;begin;begin;delete 3 0;commit 3;"), x -> x.update(2, 0, 1, 1, 1), 8);
    }

    private static void promise22AnotherOneThatIsGoneIsNot() {
        Cases.Run run = Cases.then(States.ENDED, x -> x.update(4, 0, 1, 9, 1));
        on.good("update(4, 0, ..)", States.ENDED, x -> x.update(4, 0, 1, 9, 1), 1);
        on.good("ENDER", run, x -> x.version(0, 0, 5), 4);
        on.good("NEXT", run, x -> x.version(0, 0, 7), 2);
        on.good("CHAIN", run, x -> x.slot(0, 0, 3), 2);
    }

    private static void promise22NoPageHasPlace() {
        on.refused("13 of 12", NO_PLACE, x -> x.update(3, 1, 1, 1, 13), 5);
        on.refused("20, and a DEAD one in its PAGE", NO_PLACE, x -> x.update(3, 0, 1, 1, 20), 5);
        on.good("12 of 12", NO_PLACE, x -> x.update(3, 0, 1, 1, 12), 1);
        on.good("its PAGE was PRUNED for it", Cases.then(NO_PLACE, x -> x.update(3, 0, 1, 1, 12)), x -> x.counts(0), 1);
        on.good("11 of 11", NO_PLACE, x -> x.update(3, 0, 1, 1, 11), 1);
        on.good("it was not", Cases.then(NO_PLACE, x -> x.update(3, 0, 1, 1, 11)), x -> x.counts(0), 0);
    }

    private static void promise22SixtyEntries() {
        on.good("the 60th", States.NEARLY_FULL_INDEX, x -> x.update(2, 29, 2, 2, 1), 0);
        // 60 ENTRIES lead to 60 SLOTS, so that none is UNUSED: 5 always comes ahead of 3.
        on.refused("a 61st", States.FULL_INDEX, x -> x.update(2, 29, 3, 2, 1), 5);
        on.refused("LIGHT", States.FULL_INDEX, x -> x.update(2, 29, 2, 2, 1), 5);
    }

    private static void promise22LightInThePageWithTheKey() {
        String text = "units 40;row 1 1 10;row 2 2 10;begin;";
        on.good("the same KEY", Cases.text(text), x -> x.update(2, 0, 1, 1, 20), 1);
        on.good("another KEY", Cases.text(text), x -> x.update(2, 0, 2, 1, 20), 0);
        on.good("the same KEY, another PAGE", Cases.text(text + "insert 2 3 3 1;"), x -> x.update(2, 0, 1, 1, 20), 0);
        on.good("an ENTRY of it", Cases.text(text + "insert 2 3 3 1;update 2 0 1 1 20;"), x -> x.slot(1, 0, 2), 1);
        on.good("no ENTRY", Cases.text(text + "update 2 0 1 1 20;"), x -> x.many(6), 2);
        on.good("back to a KEY that it had", Cases.text(text + "update 2 0 2 1 1;"), x -> x.update(2, 0, 1, 1, 1), 0);
    }

    private static void promise22TheOldOne() {
        Cases.Run run = Cases.text("units 32;row 1 1 20;row 2 2 12;row 3 3 5;begin;update 2 0 1 9 19;");
        on.good("ENDER", run, x -> x.version(0, 0, 5), 2);
        on.good("PAGE of NEXT", run, x -> x.version(0, 0, 6), 1);
        on.good("SLOT of NEXT", run, x -> x.version(0, 0, 7), 1);
        on.good("its VALUE stays", run, x -> x.version(0, 0, 2), 1);
        on.good("ENDER of the new one", run, x -> x.version(1, 1, 5), NONE);
        on.good("NEXT of the new one", run, x -> x.version(1, 1, 6), NONE);
        on.good("MAKER of the new one", run, x -> x.version(1, 1, 4), 2);
    }

    private static void promise22TenSlots() {
        Cases.Run nine = Cases.text("row 1 1 1;".repeat(9) + "begin;");
        on.good("a tenth SLOT", nine, x -> x.update(2, 0, 1, 1, 1), 1);
        Cases.Run ten = Cases.text("row 1 1 1;".repeat(10) + "begin;");
        on.good("no eleventh", ten, x -> x.update(2, 0, 1, 1, 1), 0);
        on.good("page 1", Cases.then(ten, x -> x.update(2, 0, 1, 1, 1)), x -> x.sees(2, 0, 0), 1);
    }

    /** Nine rows, row 0 with a DEAD LIGHT one, or with a STUB: what pruning makes of the SLOTS. */
    private static void promise22PruningMakesPlaceWhereASlotIsUnused() {
        Cases.Run light = Cases.text("row 1 1 1;".repeat(9) + "begin;update 2 0 1 1 1;abort 2;begin;");
        on.good("UNUSED by pruning", light, x -> x.update(3, 5, 1, 1, 1), 1);
        on.good("that SLOT", Cases.then(light, x -> x.update(3, 5, 1, 1, 1)), x -> x.sees(3, 5, 1), 9);
        on.good("used again", Cases.then(light, x -> x.update(3, 5, 1, 1, 1)), x -> x.counts(2), 1);
        Cases.Run stub = Cases.text("row 1 1 1;".repeat(10) + "begin;delete 2 0;commit 2;begin;");
        on.good("a STUB by pruning", stub, x -> x.update(3, 5, 1, 1, 1), 0);
        on.good("PRUNED even so", Cases.then(stub, x -> x.update(3, 5, 1, 1, 1)), x -> x.many(12), 1);
        on.good("page 1", Cases.then(stub, x -> x.update(3, 5, 1, 1, 1)), x -> x.sees(3, 5, 0), 1);
    }

    /** A page ahead of its own with PLACE is not taken as long as its own has PLACE. */
    private static void promise22ItsOwnPageAheadOfTheFirst() {
        Cases.Run run = Cases.text("units 32;row 1 1 16;row 2 2 17;begin;");
        on.good("its own", Cases.then(run, x -> x.update(2, 1, 2, 1, 15)), x -> x.sees(2, 1, 0), 1);
        on.good("the first that has PLACE", Cases.then(run, x -> x.update(2, 1, 2, 1, 16)), x -> x.sees(2, 1, 0), 0);
        on.good("the first that has PLACE", Cases.then(run, x -> x.update(2, 1, 2, 1, 17)), x -> x.sees(2, 1, 0), 2);
    }

    /** So it is if its own has PLACE by pruning alone, though a page ahead has PLACE without. */
    private static void promise22ItsOwnPrunedPageAheadOfTheFirst() {
        Cases.Run run = Cases.text("units 32;row 1 1 10;row 2 2 20;row 3 3 20;row 4 4 10;begin;delete 2 1;delete 2 3;commit 2;prune 0;begin;");
        on.good("FREE in page 0", run, x -> x.page(0, 1), 22);
        on.good("FREE in page 1", run, x -> x.page(1, 1), 2);
        on.good("LIGHT in page 1", run, x -> x.update(3, 2, 3, 1, 12), 1);
        on.good("PAGE", Cases.then(run, x -> x.update(3, 2, 3, 1, 12)), x -> x.sees(3, 2, 0), 1);
        on.good("13: page 0", Cases.then(run, x -> x.update(3, 2, 3, 1, 13)), x -> x.sees(3, 2, 0), 0);
    }

    private static void promise22NumbersAheadOfAllElse() {
        on.refused("1, 2", States.HELD, x -> x.update(9, 9, 100, 1, 1), 1);
        on.refused("1, 4", States.ENDED, x -> x.update(2, 0, 1, 1000, 1), 1);
        on.refused("1, 11", States.WAITING, x -> x.update(4, 1, 1, 1, 0), 1);
        on.refused("1, 6", States.HELD, x -> x.update(2, 0, -1, 1, 1), 1);
        on.refused("1, 7", States.HELD, x -> x.update(4, 0, 1, -1, 1), 1);
        on.refused("1, 8", States.ENDED, x -> x.update(4, 1, 1, 1, 21), 1);
        on.refused("1, 5", NO_PLACE, x -> x.update(3, 0, 100, 1, 20), 1);
    }

    private static void promise22NoneAheadOfWhatTheTransactionIs() {
        on.refused("2, 4", States.ENDED, x -> x.update(2, 2, 1, 1, 1), 2);
        on.refused("2, 11", States.WAITING, x -> x.update(4, 2, 1, 1, 1), 2);
        on.refused("2, 5", NO_PLACE, x -> x.update(3, 7, 1, 1, 20), 2);
        on.refused("2, 3", States.FULL_INDEX, x -> x.update(4, 0, 1, 1, 1), 2);
    }

    private static void promise22NotOpenAheadOfTheRow() {
        on.refused("4, 6", States.ENDED, x -> x.update(2, 0, 1, 1, 1), 4);
        on.refused("4, 7", Cases.text("row 1 1 1;begin;begin;commit 2;delete 3 0;"), x -> x.update(2, 0, 1, 1, 1), 4);
        on.refused("4, 8", Cases.text("row 1 1 1;begin;begin;commit 2;delete 3 0;commit 3;"), x -> x.update(2, 0, 1, 1, 1), 4);
        on.refused("4, 5", NO_PLACE, x -> x.update(2, 0, 1, 1, 20), 4);
        on.refused("4, 3", States.FULL_INDEX, x -> x.update(1, 0, 1, 1, 1), 4);
    }

    private static void promise22WaitingAheadOfTheRow() {
        on.refused("11, 6", Cases.then(States.WAITING, x -> x.insert(2, 1, 1, 1)), x -> x.update(4, 2, 1, 1, 1), 11);
        on.refused("11, 7", States.WAITING, x -> x.update(4, 1, 1, 1, 1), 11);
        on.refused("11, 8", Cases.then(States.WAITING, x -> x.commit(3)), x -> x.update(4, 1, 1, 1, 1), 11);
        Cases.Run noPlace = Cases.then(NO_PLACE, RowPruner::begin, x -> x.delete(3, 0), x -> x.await(4, 0));
        on.refused("11, 5", noPlace, x -> x.update(4, 1, 1, 1, 20), 11);
    }

    private static void promise22UnseenAheadOfNoPlace() {
        Cases.Run run = Cases.then(NO_PLACE, x -> x.delete(3, 1));
        on.refused("6, 5", run, x -> x.update(3, 1, 1, 1, 20), 6);
        on.refused("6, 3", Cases.then(States.FULL_INDEX, x -> x.delete(2, 0)), x -> x.update(2, 0, 3, 3, 1), 6);
    }

    private static void promise22EndersAheadOfNoPlace() {
        Cases.Run open = Cases.then(NO_PLACE, RowPruner::begin, x -> x.delete(4, 0));
        on.refused("7, 5", open, x -> x.update(3, 0, 1, 1, 20), 7);
        on.refused("8, 5", Cases.then(open, x -> x.commit(4)), x -> x.update(3, 0, 1, 1, 20), 8);
        on.refused("7, 3", States.FULL_INDEX, x -> x.update(3, 0, 3, 3, 1), 7);
        on.refused("8, 3", Cases.then(States.FULL_INDEX, x -> x.commit(2)), x -> x.update(3, 0, 3, 3, 1), 8);
    }

    // ---- promise 23: delete

    private static void promise23NoSuchOneNoSuchRow() {
        on.refusedEach("delete(.., 0)", States.HELD, (x, t) -> x.delete(t, 0), 2, States.noTxns());
        on.refusedEach("delete(4, ..)", States.HELD, (x, r) -> x.delete(4, r), 2, States.noRows());
    }

    private static void promise23NotOpen() {
        on.refusedEach("delete()", States.ENDED, (x, t) -> x.delete(t, 0), 4, 1, 2, 3);
    }

    private static void promise23OneThatWaits() {
        Cases.Run run = Cases.then(Cases.text("row 1 1 1;row 2 2 2;begin;begin;delete 2 0;"), x -> x.await(3, 0));
        on.refused("delete(3, 1)", run, x -> x.delete(3, 1), 11);
        on.good("it waits no more", Cases.then(run, x -> x.commit(2)), x -> x.delete(3, 1), 1);
    }

    private static void promise23Unseen() {
        on.refused("its own, deleted", States.HELD, x -> x.delete(2, 0), 6);
        on.refused("another one's", Cases.text("begin;begin;insert 2 1 1 1;"), x -> x.delete(3, 0), 6);
        on.refused("none is left", Cases.text("begin;insert 2 1 1 1;abort 2;vacuum;begin;"), x -> x.delete(3, 0), 6);
    }

    private static void promise23AnotherOneIsTheEnder() {
        on.refused("OPEN", States.HELD, x -> x.delete(4, 0), 7);
        on.refused("DONE", States.ENDED, x -> x.delete(4, 1), 8);
        on.good("GONE", States.ENDED, x -> x.delete(4, 0), 1);
    }

    private static void promise23WhatComesFirst() {
        on.refused("2, 4", States.ENDED, x -> x.delete(2, 2), 2);
        on.refused("2, 11", States.WAITING, x -> x.delete(4, 2), 2);
        on.refused("4, 6", States.ENDED, x -> x.delete(2, 0), 4);
        on.refused("4, 7", Cases.text("row 1 1 1;begin;begin;commit 2;delete 3 0;"), x -> x.delete(2, 0), 4);
        on.refused("4, 8", Cases.text("row 1 1 1;begin;begin;commit 2;delete 3 0;commit 3;"), x -> x.delete(2, 0), 4);
        on.refused("11, 6", Cases.then(States.WAITING, x -> x.insert(2, 1, 1, 1)), x -> x.delete(4, 2), 11);
        on.refused("11, 7", States.WAITING, x -> x.delete(4, 0), 11);
        on.refused("11, 8", Cases.then(States.WAITING, x -> x.commit(3)), x -> x.delete(4, 1), 11);
    }

    private static void promise23EnderAndNoNext() {
        Cases.Run run = Cases.text("row 1 1 1;begin;update 2 0 1 2 1;abort 2;begin;");
        on.good("one more VERSION is there", run, x -> x.delete(3, 0), 2);
        Cases.Run deleted = Cases.then(run, x -> x.delete(3, 0));
        on.good("ENDER", deleted, x -> x.version(0, 0, 5), 3);
        on.good("PAGE of NEXT", deleted, x -> x.version(0, 0, 6), NONE);
        on.good("SLOT of NEXT", deleted, x -> x.version(0, 0, 7), NONE);
        on.good("no new VERSION", deleted, x -> x.many(7), 2);
        on.good("the ENTRY stays", deleted, x -> x.many(6), 1);
    }

    private static void promise23HowManyVersions() {
        on.good("one", Cases.text("row 1 1 1;begin;"), x -> x.delete(2, 0), 1);
        on.good("ten", Cases.text("row 1 1 1;begin;" + "update 2 0 1 1 1;".repeat(9)), x -> x.delete(2, 0), 10);
    }

    // ---- promise 24: await

    private static void promise24NoSuchOneNoSuchRow() {
        on.refusedEach("await(.., 0)", States.HELD, (x, t) -> x.await(t, 0), 2, States.noTxns());
        on.refusedEach("await(4, ..)", States.HELD, (x, r) -> x.await(4, r), 2, States.noRows());
    }

    private static void promise24NotOpen() {
        on.refusedEach("await()", States.ENDED, (x, t) -> x.await(t, 0), 4, 1, 2, 3);
    }

    private static void promise24OneThatWaits() {
        on.refused("for another one", States.WAITING, x -> x.await(4, 1), 11);
        on.refused("for the same one", States.WAITING, x -> x.await(4, 0), 11);
    }

    private static void promise24Unseen() {
        on.refused("its own, deleted", States.HELD, x -> x.await(2, 0), 6);
        on.refused("another one's", Cases.text("begin;begin;insert 2 1 1 1;"), x -> x.await(3, 0), 6);
    }

    private static void promise24NoneThatIsOpen() {
        on.refused("no ENDER", Cases.text("row 1 1 1;begin;"), x -> x.await(2, 0), 5);
        on.refused("GONE", States.ENDED, x -> x.await(4, 0), 5);
        on.refused("DONE", States.ENDED, x -> x.await(4, 1), 5);
        on.refused("its own, without ENDER", Cases.text("begin;insert 2 1 1 1;"), x -> x.await(2, 0), 5);
    }

    private static void promise24WhichThatIs() {
        on.good("2", States.HELD, x -> x.await(4, 0), 2);
        on.good("3", States.HELD, x -> x.await(4, 1), 3);
        on.good("one of a lesser number for a greater one", States.HELD, x -> x.await(2, 1), 3);
        on.good("several for one", States.WAITING, x -> x.await(3, 0), 2);
    }

    private static void promise24ARingOfTwo() {
        on.refused("await(3, 0)", Cases.then(States.HELD, x -> x.await(2, 1)), x -> x.await(3, 0), 12);
        on.good("the first may", States.HELD, x -> x.await(3, 0), 2);
    }

    private static void promise24ARingOfFour() {
        Cases.Run run = Cases.then(States.FOUR, x -> x.await(2, 1), x -> x.await(3, 2), x -> x.await(4, 3));
        on.refused("5 for 2", run, x -> x.await(5, 0), 12);
        on.refused("5 for 3", run, x -> x.await(5, 1), 12);
        on.refused("5 for 4", run, x -> x.await(5, 2), 12);
        on.good("one that none WAITS for", run, x -> x.await(6, 0), 2);
        on.good("the row is cut", Cases.then(run, x -> x.abort(3)), x -> x.await(5, 0), 2);
    }

    private static void promise24WhatComesFirst() {
        on.refused("2, 4", States.ENDED, x -> x.await(2, 2), 2);
        on.refused("2, 11", States.WAITING, x -> x.await(4, 2), 2);
        on.refused("4, 6", States.ENDED, x -> x.await(2, 0), 4);
        on.refused("4, 5", States.ENDED, x -> x.await(1, 1), 4);
        on.refused("11, 6", Cases.then(States.FOUR, x -> x.await(2, 1)), x -> x.await(2, 0), 11);
        on.refused("11, 5", Cases.then(Cases.text("row 1 1 1;row 2 2 2;begin;begin;delete 2 0;"), x -> x.await(3, 0)), x -> x.await(3, 1), 11);
        Cases.Run nearly = Cases.then(States.FOUR, x -> x.await(6, 2), x -> x.await(2, 1), x -> x.await(3, 2));
        on.refused("11, 12", nearly, x -> x.await(3, 0), 11);
        on.refused("6, 5: unseen, so that there is no ENDER", Cases.text("begin;begin;insert 2 1 1 1;"), x -> x.await(3, 0), 6);
    }

    /** Till that is DONE or GONE, or itself GONE; whatever others do. */
    private static void promise24HowLong() {
        Cases.Run run = Cases.then(States.FOUR, x -> x.await(6, 0), x -> x.await(3, 0));
        on.good("others end", Cases.then(run, x -> x.commit(4), x -> x.abort(5), RowPruner::vacuum), x -> x.txn(6, 3), 2);
        on.good("that is DONE", Cases.then(run, x -> x.commit(2)), x -> x.many(16), 0);
        on.good("that is GONE", Cases.then(run, x -> x.abort(2)), x -> x.many(16), 0);
        on.good("itself GONE", Cases.then(run, x -> x.abort(6)), x -> x.many(16), 1);
    }

    private static void promise24WhoWaitsCannotDoAnythingElse() {
        on.refused("commit()", States.WAITING, x -> x.commit(4), 11);
        on.refused("insert()", States.WAITING, x -> x.insert(4, 1, 1, 1), 11);
        on.refused("update()", States.WAITING, x -> x.update(4, 1, 1, 1, 1), 11);
        on.refused("delete()", States.WAITING, x -> x.delete(4, 1), 11);
        on.refused("await()", States.WAITING, x -> x.await(4, 1), 11);
        on.refused("look()", States.WAITING, x -> x.look(4, 1), 11);
        on.refused("ring()", States.WAITING, x -> x.ring(4, 1), 11);
        due.is("but be GONE", Cases.after(States.WAITING).abort(4), 2);
    }
}
