/** The boundary cases of promises 1 to 5, each in a case of its own: a new object, the status, the tape, the text. */
final class BoundsTextTest {
    private static final Cases on = new Cases(BoundsTextTest.class, 1, 5);
    private static final Due due = on.due;
    private static final int NONE = RowPruner.NONE;
    private static final String[] WORDS = {"units", "batch", "age", "row", "begin", "insert", "update", "delete",
        "commit", "abort", "prune", "vacuum", "look", "repack"};
    private static final int[] NUMBERS = {1, 1, 1, 3, 0, 4, 5, 2, 1, 1, 1, 0, 2, 0};
    /** 700 bytes, the most that a tape has: a hundred lines. */
    private static final String FULL_TAPE = "vacuum;".repeat(100);

    public static void main(String[] args) {
        on.runAll();
    }

    private static Cases.Run fed(String text) {
        return x -> Due.feed(x, text);
    }

    private static Cases.Run fedTo(Cases.Run run, String text) {
        return x -> {
            run.on(x);
            Due.feed(x, text);
        };
    }

    // ---- promise 1: a new object

    private static void promise1ManyOfANewObject() {
        on.tellsEach("many()", Cases.NEW, RowPruner::many, 64, 3, 5, 0, 2, 2, 0, 0, 0, 0, 0, 0, 0, 0, 0, 0, 0);
    }

    private static void promise1CountsOfANewObject() {
        on.tellsEach("counts()", Cases.NEW, RowPruner::counts, 0, 0, 0, 0, 0, 0, 0, 0);
    }

    private static void promise1PagesWithoutSlots() {
        RowPruner x = new RowPruner();
        for (int p = 0; p < 6; p++) {
            int[] page = {0, 64, 0, 0, 0};
            for (int w = 0; w < 5; w++) due.good("page(" + p + ", " + w + ")", x, x.page(p, w), page[w]);
            due.refused("slot(" + p + ", 0, 0)", x, x.slot(p, 0, 0), 2);
            due.refused("version(" + p + ", 0, 0)", x, x.version(p, 0, 0), 2);
        }
    }

    private static void promise1Transaction1IsDoneAndNotedNone() {
        RowPruner x = new RowPruner();
        due.good("txn(1, 0)", x, x.txn(1, 0), 1);
        due.refused("txn(1, 1)", x, x.txn(1, 1), 5);
        due.good("txn(1, 2)", x, x.txn(1, 2), 0);
        due.good("txn(1, 3)", x, x.txn(1, 3), NONE);
        due.refused("txn(2, 0)", x, x.txn(2, 0), 2);
    }

    private static void promise1NoMarks() {
        RowPruner x = new RowPruner();
        due.refused("back()", x, x.back(), 5);
    }

    private static void promise1AnEmptyTape() {
        RowPruner x = new RowPruner();
        due.refused("load(1)", x, x.load(1), 1);
        due.is("feed()", x.feed(0, 0, 0, 0, 0), 20);
    }

    private static void promise1Status0() {
        due.is("status()", new RowPruner().status(), 0);
    }

    private static void promise1NothingThatCouldBeTold() {
        RowPruner x = new RowPruner();
        due.refused("entry(0, 0)", x, x.entry(0, 0), 5);
        due.refused("event(0, 0)", x, x.event(0, 0), 5);
        due.refused("found(0, 0)", x, x.found(0, 0), 5);
        due.refused("holder()", x, x.holder(), 5);
        due.refused("best()", x, x.best(), 5);
        due.refused("versions(0)", x, x.versions(0), 2);
        due.is("fault(0)", x.fault(0), NONE);
    }

    private static void promise1OneObjectKnowsNothingOfAnother() {
        RowPruner busy = Due.loaded("units 40;row 1 1 1;begin;");
        busy.mark();
        RowPruner x = new RowPruner();
        due.good("many(0)", x, x.many(0), 64);
        due.good("many(3)", x, x.many(3), 0);
        due.good("many(14)", x, x.many(14), 0);
        due.refused("back()", x, x.back(), 5);
        due.good("many(0) of the other", busy, busy.many(0), 40);
    }

    // ---- promise 2: status

    /** Behind a call with this status status() tells it, as often as it is asked, and feed(), fault() have none. */
    private static void status(Cases.Run run, Cases.Call call, int want) {
        RowPruner x = Cases.after(run);
        call.on(x);
        due.is("status()", x.status(), want);
        due.is("status() again", x.status(), want);
        due.is("feed()", x.feed(0, 0, 0, 0, 0), 20);
        due.is("status() behind feed()", x.status(), want);
        x.fault(0);
        due.is("status() behind fault(0)", x.status(), want);
        x.fault(2);
        due.is("status() behind fault(2)", x.status(), want);
        x.many(0);
        due.is("status() behind many(0)", x.status(), 0);
    }

    private static void promise2Status0() {
        status(x -> x.many(17), x -> x.many(16), 0);
    }

    private static void promise2Status1() {
        status(Cases.NEW, x -> x.many(17), 1);
    }

    private static void promise2Status2() {
        status(Cases.NEW, x -> x.versions(0), 2);
    }

    private static void promise2Status3() {
        status(Cases.then(Cases.NEW, Cases.times(3, RowPruner::mark)), RowPruner::mark, 3);
    }

    private static void promise2Status4() {
        status(Cases.NEW, x -> x.commit(1), 4);
    }

    private static void promise2Status5() {
        status(Cases.NEW, RowPruner::back, 5);
    }

    private static void promise2Status6() {
        status(Cases.text("begin;begin;insert 2 1 1 1;"), x -> x.delete(3, 0), 6);
    }

    private static void promise2Status7() {
        status(Cases.text("row 1 1 1;begin;begin;delete 2 0;"), x -> x.delete(3, 0), 7);
    }

    private static void promise2Status8() {
        status(Cases.text("row 1 1 1;begin;begin;delete 2 0;commit 2;"), x -> x.delete(3, 0), 8);
    }

    private static void promise2Status9() {
        status(fed("x"), x -> x.load(1), 9);
    }

    private static void promise2Status10() {
        status(Cases.text("begin;"), RowPruner::repack, 10);
    }

    private static void promise2Status11() {
        status(Cases.then(Cases.text("row 1 1 1;begin;begin;delete 2 0;"), x -> x.await(3, 0)), x -> x.commit(3), 11);
    }

    private static void promise2Status12() {
        Cases.Run run = Cases.text("row 1 1 1;row 2 2 2;begin;begin;delete 2 0;delete 3 1;");
        status(Cases.then(run, x -> x.await(2, 1)), x -> x.await(3, 0), 12);
    }

    private static void promise2FeedThatIsTooMuchHasNone() {
        RowPruner x = Cases.after(fed(FULL_TAPE));
        x.commit(1);
        due.is("feed()", x.feed(0, 0, 0, 0, 0), NONE);
        due.is("status()", x.status(), 4);
        x.many(0);
        due.is("feed()", x.feed(0, 0, 0, 0, 0), NONE);
        due.is("status()", x.status(), 0);
    }

    private static void promise2FaultThatTellsNothingHasNone() {
        RowPruner x = new RowPruner();
        x.commit(1);
        due.is("fault(0)", x.fault(0), NONE);
        due.is("status()", x.status(), 4);
        x.many(0);
        due.is("fault(-1)", x.fault(-1), NONE);
        due.is("status()", x.status(), 0);
    }

    /** Status 0 tells an answer of -1 from a refusal. */
    private static void promise2NoneThatIsAnAnswer() {
        RowPruner x = Due.loaded("row 1 1 1;");
        due.good("slot(0, 0, 1)", x, x.slot(0, 0, 1), NONE);
        due.good("version(0, 0, 5)", x, x.version(0, 0, 5), NONE);
        due.good("version(0, 0, 6)", x, x.version(0, 0, 6), NONE);
        due.good("version(0, 0, 7)", x, x.version(0, 0, 7), NONE);
        due.good("txn(1, 3)", x, x.txn(1, 3), NONE);
    }

    private static void promise2IsNotTakenBack() {
        RowPruner x = new RowPruner();
        x.commit(1);
        x.mark();
        x.commit(9);
        x.back();
        due.is("status()", x.status(), 0);
    }

    // ---- promise 3: feed

    private static void promise3TwentyBytesMore() {
        RowPruner x = new RowPruner();
        for (int i = 1; i <= 34; i++) due.is("feed() " + i, x.feed(i, 0, 0, 0, 0), 20 * i);
    }

    private static void promise3SevenHundredAreAllowed() {
        RowPruner x = Cases.after(fed("vacuum;".repeat(97)));
        due.is("feed() of the last twenty", x.feed(0, 0, 0, 0, 0), 700);
    }

    private static void promise3MoreThanSevenHundredAreNot() {
        RowPruner x = Cases.after(fed(FULL_TAPE));
        due.is("feed()", x.feed(1, 1, 1, 1, 1), NONE);
    }

    private static void promise3WhatIsTooMuchLeavesTheTape() {
        RowPruner x = Cases.after(fed(FULL_TAPE));
        for (int i = 0; i < 3; i++) due.is("feed()", x.feed(-1, -1, -1, -1, -1), NONE);
        due.refused("load(701)", x, x.load(701), 1);
        due.good("load(700)", x, x.load(700), 0);
        due.is("fault(0)", x.fault(0), 0);
    }

    private static void promise3TheHighestByteFirst() {
        RowPruner x = new RowPruner();
        x.feed('r' << 24 | 'o' << 16 | 'w' << 8 | '7', ' ' << 24 | '8' << 16 | ' ' << 8 | '9', ';' << 24, 0, 0);
        due.good("load(9)", x, x.load(9), 1);
        for (int w = 1; w < 4; w++) due.good("version(0, 0, " + w + ")", x, x.version(0, 0, w), 6 + w);
    }

    private static void promise3EachIntInItsOrder() {
        // begi n;in sert  2 1  2 3;
        RowPruner x = new RowPruner();
        due.is("feed()", x.feed(0x62656769, 0x6e3b696e, 0x73657274, 0x20322031, 0x20322033), 20);
        due.is("feed()", x.feed(0x3b000000, 0, 0, 0, 0), 40);
        due.good("load(21)", x, x.load(21), 1);
        for (int w = 1; w < 4; w++) due.good("version(0, 0, " + w + ")", x, x.version(0, 0, w), w);
    }

    /** A byte of 128 and more is no TOKEN wherever it stands in an int; it is not that byte less 128 or 256. */
    private static void promise3BytesAbove127() {
        for (int at = 0; at < 20; at++) {
            for (int b : new int[] {128, 160, 187, 255}) {
                int[] five = new int[5];
                for (int i = 0; i < 20; i++) five[i / 4] = five[i / 4] << 8 | (i == at ? b : ' ');
                RowPruner x = new RowPruner();
                x.feed(five[0], five[1], five[2], five[3], five[4]);
                due.refused("load(20)", x, x.load(20), 9);
                due.is("fault(0)", x.fault(0), 1);
                due.is("fault(1)", x.fault(1), at);
            }
        }
    }

    private static void promise3BehindThoseOnTheTape() {
        RowPruner x = Cases.after(fed("row 1 2 3;          "));
        due.is("feed()", x.feed('r' << 24 | 'o' << 16 | 'w' << 8 | '4', 0x20352036, 0x3b202020, 0x20202020, 0x20202020), 40);
        due.good("load(40)", x, x.load(40), 2);
        for (int w = 1; w < 4; w++) due.good("version(0, 1, " + w + ")", x, x.version(0, 1, w), 3 + w);
    }

    private static void promise3BehindALoadTheTapeIsFilledAnew() {
        for (String text : new String[] {"begin;", "x"}) {
            RowPruner x = Cases.after(fed(FULL_TAPE.substring(0, 680) + text));
            x.load(text.equals("x") ? 681 : 0);
            for (int i = 1; i <= 35; i++) due.is("feed() " + i, x.feed(0, 0, 0, 0, 0), 20 * i);
            due.is("feed() of more", x.feed(0, 0, 0, 0, 0), NONE);
        }
    }

    private static void promise3ChangesNothingElse() {
        on.sameButTape("feed()", States.BUSY, fedTo(States.BUSY, "begin;begin;"));
    }

    // ---- promise 4: load

    private static void promise4BelowNone() {
        Cases.Run run = fedTo(States.BUSY, "begin;begin;");
        on.refused("load(-1)", run, x -> x.load(-1), 1);
        on.refused("load(least)", run, x -> x.load(Integer.MIN_VALUE), 1);
    }

    private static void promise4MoreThanTheTapeHas() {
        Cases.Run run = fedTo(States.BUSY, "begin;begin;");
        on.refused("load(21)", run, x -> x.load(21), 1);
        on.refused("load(most)", run, x -> x.load(Integer.MAX_VALUE), 1);
        on.refused("load(1) of an empty tape", States.BUSY, x -> x.load(1), 1);
    }

    private static void promise4AllThatTheTapeHas() {
        on.good("load(20)", fed("row 1 2 3;row 4 5 6;"), x -> x.load(20), 2);
        on.good("load(700)", fed(FULL_TAPE), x -> x.load(700), 0);
    }

    private static void promise4TheFirstBytesAlone() {
        RowPruner x = Cases.after(fed("row 1 2 3;row 4 5 6;"));
        due.good("load(10)", x, x.load(10), 1);
        due.refused("the rest is gone", x, x.load(1), 1);
    }

    private static void promise4NoBytes() {
        on.good("load(0) of an empty tape", Cases.NEW, x -> x.load(0), 0);
        RowPruner x = Cases.after(fed("row 1 2 3;row 4 5 6;"));
        due.good("load(0)", x, x.load(0), 0);
        due.refused("the tape is empty then", x, x.load(1), 1);
        due.good("many(3)", x, x.many(3), 0);
    }

    private static void promise4BlanksAlone() {
        on.good("blanks", fed(" \n\n  \n"), x -> x.load(6), 0);
    }

    private static void promise4StatusOneLeavesTheTape() {
        RowPruner x = Cases.after(fed("row 1 2 3;row 4 5 6;"));
        due.refused("load(-1)", x, x.load(-1), 1);
        due.refused("load(21)", x, x.load(21), 1);
        due.is("feed()", x.feed(0x3b3b3b3b, 0, 0, 0, 0), 40);
        due.refused("load(-1)", x, x.load(-1), 1);
        due.good("load(20)", x, x.load(20), 2);
    }

    private static void promise4AFaultChangesTheTapeAndFaultAlone() {
        for (String bad : new String[] {"x", "row 1 1 1", "units 99;", "begin;insert 2 1 1 1;commit 2;vacuum;look 2 1;",
            "row 1 1 1;begin;update 2 0 1 1 20;commit 2;prune 0;vacuum;repack;commit 2;"}) {
            Cases.Run run = fedTo(States.BUSY, bad);
            RowPruner x = Cases.after(run);
            due.refused("load of " + bad, x, x.load(bad.length()), 9);
            due.refused("the tape is empty then", x, x.load(1), 1);
            due.is("feed()", x.feed(0, 0, 0, 0, 0), 20);
            on.sameButTape("load of " + bad, run, y -> {
                run.on(y);
                y.load(bad.length());
            });
        }
    }

    /** What there was ahead of a load() leaves no trace. */
    private static void promise4AllIsMadeAnew() {
        on.sameButTape("load(0)", Cases.NEW, x -> {
            States.BUSY_UNMARKED.on(x);
            x.load(0);
        });
        String text = "batch 2;row 1 1 9;begin;begin;update 2 0 1 2 9;commit 2;look 3 1;prune 0;vacuum;";
        on.sameButTape("load()", Cases.text(text), x -> {
            States.BUSY_UNMARKED.on(x);
            Due.load(x, text);
        });
    }

    private static void promise4MarksStay() {
        RowPruner x = Due.loaded("units 32;row 1 1 1;");
        x.mark();
        Due.load(x, "units 33;row 1 1 1;row 2 2 2;");
        x.mark();
        x.mark();
        due.good("load()", x, Due.load(x, "units 34;"), 0);
        due.good("many(14)", x, x.many(14), 3);
        due.refused("mark()", x, x.mark(), 3);
        due.good("back()", x, x.back(), 2);
        due.good("many(0)", x, x.many(0), 33);
        due.good("load(0)", x, x.load(0), 0);
        due.good("back()", x, x.back(), 1);
        due.good("many(3)", x, x.many(3), 2);
        due.good("back()", x, x.back(), 0);
        due.good("many(0)", x, x.many(0), 32);
        due.good("many(3)", x, x.many(3), 1);
    }

    private static void promise4Transaction1IsDoneTheNextOneIs2() {
        RowPruner x = Due.loaded("begin;begin;abort 2;");
        x.load(0);
        due.good("txn(1, 0)", x, x.txn(1, 0), 1);
        due.refused("txn(2, 0)", x, x.txn(2, 0), 2);
        due.good("many(4)", x, x.many(4), 2);
        due.good("begin()", x, x.begin(), 2);
        due.good("txn(2, 2)", x, x.txn(2, 2), 0);
    }

    private static void promise4RowsAreOfTransaction1() {
        RowPruner x = Due.loaded("row 1 2 3;begin;");
        int[] version = {0, 1, 2, 3, 1, NONE, NONE, NONE, 0, 0, 0, 0};
        for (int w = 0; w < 12; w++) due.good("version(0, 0, " + w + ")", x, x.version(0, 0, w), version[w]);
        due.good("knows(2, 1)", x, x.knows(2, 1), 1);
        due.good("sees(2, 0, 3)", x, x.sees(2, 0, 3), 2);
        due.good("an ENTRY", x, x.many(6), 1);
        due.refused("no EVENT", x, x.event(0, 0), 5);
    }

    private static void value(String text, int what, int want) {
        RowPruner x = new RowPruner();
        due.good("load of " + text, x, Due.load(x, text), 0);
        due.good("many(" + what + ") behind " + text, x, x.many(what), want);
    }

    private static void promise4UnitsFrom32To96() {
        value("units 32;", 0, 32);
        value("units 96;", 0, 96);
        fault("units 31;", 4, 6);
        fault("units 97;", 4, 6);
        fault("units 0;", 4, 6);
        fault("units 999;", 4, 6);
    }

    private static void promise4Units64Without() {
        value("batch 1;age 1;", 0, 64);
    }

    private static void promise4BatchFrom1To8() {
        value("batch 1;", 1, 1);
        value("batch 8;", 1, 8);
        fault("batch 0;", 4, 6);
        fault("batch 9;", 4, 6);
    }

    private static void promise4Batch3Without() {
        value("units 40;age 1;", 1, 3);
    }

    private static void promise4AgeFrom0To30() {
        value("age 0;", 2, 0);
        value("age 30;", 2, 30);
        fault("age 31;", 4, 4);
    }

    private static void promise4Age5Without() {
        value("units 40;batch 1;", 2, 5);
    }

    private static void promise4KeyOfARowFrom0To99() {
        due.good("KEY 0", Due.loaded("row 0 1 1;"), Due.loaded("row 0 1 1;").version(0, 0, 1), 0);
        due.is("KEY 99", Due.loaded("row 99 1 1;").version(0, 0, 1), 99);
        fault("row 100 1 1;", 4, 4);
    }

    private static void promise4ValueOfARowFrom0To999() {
        due.is("VALUE 0", Due.loaded("row 1 0 1;").version(0, 0, 2), 0);
        due.is("VALUE 999", Due.loaded("row 1 999 1;").version(0, 0, 2), 999);
        fault("row 1 1000 1;", 1, 6);
    }

    private static void promise4SizeOfARowFrom1To20() {
        due.is("SIZE 1", Due.loaded("row 1 1 1;").version(0, 0, 3), 1);
        due.is("SIZE 20", Due.loaded("row 1 1 20;").version(0, 0, 3), 20);
        fault("row 1 1 0;", 4, 8);
        fault("row 1 1 21;", 4, 8);
    }

    private static void promise4UnitsBatchAgeInAnyOrder() {
        String[] lines = {"units 40;", "batch 4;", "age 14;"};
        for (int a = 0; a < 3; a++) {
            for (int b = 0; b < 3; b++) {
                if (a == b) continue;
                RowPruner x = Due.loaded(lines[a] + lines[b] + lines[3 - a - b]);
                due.is("UNITS", x.many(0), 40);
                due.is("BATCH", x.many(1), 4);
                due.is("AGE", x.many(2), 14);
            }
        }
    }

    private static void promise4FortyRows() {
        RowPruner x = new RowPruner();
        due.good("load()", x, Due.load(x, "row 1 1 1;".repeat(40)), 40);
        due.good("many(3)", x, x.many(3), 40);
    }

    private static void promise4HowManyRowsThoseOfActsToo() {
        RowPruner x = new RowPruner();
        due.good("load()", x, Due.load(x, "row 1 1 1;begin;insert 2 1 1 1;insert 2 1 1 1;abort 2;vacuum;"), 3);
    }

    /** An ACT is as that call with those numbers. */
    private static void promise4ActsAreAsThoseCalls() {
        String rows = "units 40;batch 2;age 0;row 1 10 10;row 2 20 10;row 2 21 10;row 3 30 10;";
        String acts = "begin;insert 2 5 50 20;update 2 0 1 11 5;delete 2 1;commit 2;begin;insert 3 6 60 3;begin;abort 3;"
            + "look 4 6;prune 0;commit 4;begin;delete 5 2;commit 5;vacuum;begin;look 6 1;commit 6;repack;begin;look 7 3;";
        Cases.Run calls = Cases.then(Cases.text(rows), RowPruner::begin, x -> x.insert(2, 5, 50, 20), x -> x.update(2, 0, 1, 11, 5),
            x -> x.delete(2, 1), x -> x.commit(2), RowPruner::begin, x -> x.insert(3, 6, 60, 3), RowPruner::begin, x -> x.abort(3),
            x -> x.look(4, 6), x -> x.prune(0), x -> x.commit(4), RowPruner::begin, x -> x.delete(5, 2), x -> x.commit(5),
            RowPruner::vacuum, RowPruner::begin, x -> x.look(6, 1), x -> x.commit(6), RowPruner::repack, RowPruner::begin, x -> x.look(7, 3));
        on.sameButTape("acts and calls", calls, Cases.text(rows + acts));
        due.is("load() itself counts", Cases.after(Cases.text(rows + acts)).counts(3), 2);
    }

    private static void promise4SixtyTransactionsInAText() {
        RowPruner x = Due.loaded("begin;".repeat(59));
        due.good("many(4)", x, x.many(4), 61);
        fault("begin;".repeat(60), 7, 59 * 6);
    }

    private static void promise4TokensGoAsLongAsTheyGo() {
        due.is("no blanks", Due.loaded("units40;row1 2 3;begin;commit2;").many(4), 3);
        fault("be gin;", 2, 0);
        fault("row 1 2 3 4;", 2, 10);
        due.is("a number behind noughts", Due.loaded("row 001 002 003;").version(0, 0, 3), 3);
    }

    private static void promise4ManyBlanks() {
        due.is("blanks", Due.loaded("\n  units\n\n40  ;  \n row 1\n2  3\n;\n begin ; ").many(4), 3);
    }

    // ---- promise 5: fault

    private static void promise5AheadOfAnyLoad() {
        RowPruner x = new RowPruner();
        for (int w : new int[] {Integer.MIN_VALUE, -1, 0, 1, 2, Integer.MAX_VALUE}) due.is("fault(" + w + ")", x.fault(w), NONE);
        x.load(1);
        due.is("fault(0) behind a load with status 1", x.fault(0), NONE);
        due.is("fault(1) behind a load with status 1", x.fault(1), NONE);
    }

    private static void promise5WithoutAFault() {
        RowPruner x = new RowPruner();
        x.load(0);
        due.is("fault(0)", x.fault(0), 0);
        due.is("fault(1)", x.fault(1), NONE);
    }

    private static void promise5OtherNumbers() {
        RowPruner x = new RowPruner();
        Due.load(x, "row 1 1 0;");
        due.is("fault(0)", x.fault(0), 4);
        due.is("fault(1)", x.fault(1), 8);
        for (int w : new int[] {Integer.MIN_VALUE, -1, 2, 3, Integer.MAX_VALUE}) due.is("fault(" + w + ")", x.fault(w), NONE);
    }

    private static void promise5OfTheLatestLoad() {
        RowPruner x = new RowPruner();
        Due.load(x, "row 1 1 0;");
        Due.load(x, "begin;x");
        due.is("fault(0)", x.fault(0), 2);
        due.is("fault(1)", x.fault(1), 6);
        Due.load(x, "begin;");
        due.is("fault(0) without one", x.fault(0), 0);
        due.is("fault(1) without one", x.fault(1), NONE);
        Due.load(x, "X");
        due.is("fault(0)", x.fault(0), 1);
        due.is("fault(1)", x.fault(1), 0);
        x.load(-1);
        x.load(1);
        due.is("fault(0) behind status 1", x.fault(0), 1);
        due.is("fault(1) behind status 1", x.fault(1), 0);
    }

    private static void promise5IsNotTakenBack() {
        RowPruner x = new RowPruner();
        x.mark();
        Due.load(x, "row 1 1 0;");
        x.back();
        due.is("fault(0)", x.fault(0), 4);
        due.is("fault(1)", x.fault(1), 8);
        RowPruner y = new RowPruner();
        y.mark();
        y.load(0);
        y.back();
        due.is("fault(0)", y.fault(0), 0);
    }

    private static void fault(String text, int kind, int place) {
        RowPruner x = new RowPruner();
        due.refused("load of " + text, x, Due.load(x, text), 9);
        due.is("fault(0) of " + text, x.fault(0), kind);
        due.is("fault(1) of " + text, x.fault(1), place);
    }

    /** Each byte at a text's beginning: a blank, a token that can or can't stand there, or none. */
    private static void promise5EachByteAtTheBeginning() {
        for (int b = 0; b < 256; b++) {
            boolean blank = b == 10 || b == 32;
            boolean token = b == ';' || b >= '0' && b <= '9' || b >= 'a' && b <= 'z';
            String text = String.valueOf((char) b);
            RowPruner x = new RowPruner();
            int got = Due.load(x, text);
            due.is("load of byte " + b, got, blank ? 0 : NONE);
            due.is("fault(0) of byte " + b, x.fault(0), blank ? 0 : token ? 2 : 1);
            due.is("fault(1) of byte " + b, x.fault(1), blank ? NONE : 0);
        }
    }

    /** Each byte behind a WORD and behind a NUMBER: what goes on with the token, or ends it. */
    private static void promise5EachByteBehindAToken() {
        for (int b = 0; b < 256; b++) {
            boolean none = b != ';' && b != 10 && b != 32 && (b < '0' || b > '9') && (b < 'a' || b > 'z');
            boolean letter = b >= 'a' && b <= 'z';
            boolean digit = b >= '0' && b <= '9';
            char c = (char) b;
            if (none) {
                fault("begin" + c, 1, 5);
                fault("row 1" + c, 1, 5);
            } else if (letter) {
                fault("begin" + c, 2, 0);
                fault("row 1" + c, 2, 5);
            } else {
                if (b == ';') due.is("begin;", States.loads("begin;"), 1);
                else fault("begin" + c, 2, digit ? 5 : 6);
                fault("row 1" + c, 2, b == ';' ? 5 : 6);
            }
        }
    }

    private static void promise5NumbersOfThreeDigitsAndOfFour() {
        due.is("three digits", Due.loaded("row 1 100 1;").version(0, 0, 2), 100);
        fault("row 1 1000 1;", 1, 6);
        fault("row 1 0001 1;", 1, 6);
        fault("units 0040;", 1, 6);
        fault("prune 0000;", 1, 6);
        fault("row 1 99999999999999999999 1;", 1, 6);
    }

    private static void promise5FourDigitsWhereNoNumberCanStand() {
        fault("1000", 1, 0);
        fault("begin 1000;", 1, 6);
        fault("begin;1000", 1, 6);
        fault("row 1 1 1 1000;", 1, 10);
    }

    private static void promise5WhatCannotStandAtALinesBeginning() {
        fault("7;", 2, 0);
        fault("begin;7", 2, 6);
        fault(";", 2, 0);
        fault("begin;;", 2, 6);
    }

    private static void promise5WordsThatAreNone() {
        for (String word : WORDS) {
            fault(word + "s 1;", 2, 0);
            fault(word.substring(0, word.length() - 1) + " 1;", 2, 0);
            fault("x" + word + " 1;", 2, 0);
        }
        fault("await 2 0;", 2, 0);
        fault("set 1 1;", 2, 0);
        fault("mark;", 2, 0);
    }

    private static void promise5WordsWithAnotherLetter() {
        for (String word : WORDS) {
            for (int i = 0; i < word.length(); i++) fault(word.substring(0, i) + 'z' + word.substring(i + 1) + " 1;", 2, 0);
        }
    }

    /** Of each line one number less, one more, a word in a number's stead; at the text's end, too. */
    private static void promise5HowManyNumbersALineHas() {
        for (int k = 0; k < WORDS.length; k++) {
            String good = States.good(WORDS[k]);
            int line = good.lastIndexOf(WORDS[k]);
            due.is(good, States.loads(good + ";"), 1);
            fault(good, 2, good.length());
            fault(good + " 1;", 2, good.length() + 1);
            fault(good + " begin;", 2, good.length() + 1);
            if (NUMBERS[k] == 0) continue;
            String less = good.substring(0, good.lastIndexOf(' '));
            fault(less + ";", 2, less.length());
            fault(less, 2, less.length());
            fault(less + " x;", 2, less.length() + 1);
            fault(good.substring(0, line) + WORDS[k] + ";", 2, line + WORDS[k].length());
        }
    }

    private static void promise5TheEndIsTheTextsLength() {
        fault("row 1 1 1", 2, 9);
        fault("row 1 1 1 \n  ", 2, 13);
        fault("row", 2, 3);
        fault("begin;begin", 2, 11);
        String long700 = "vacuum;".repeat(99) + "vacuum ";
        fault(long700, 2, 700);
        RowPruner x = Cases.after(fed("begin;begin;begin;be"));
        due.refused("load(17): the text ends ahead of the tape", x, x.load(17), 9);
        due.is("fault(0)", x.fault(0), 2);
        due.is("fault(1)", x.fault(1), 17);
    }

    private static void promise5NumbersThatCannotBe() {
        fault("batch 1;age 31;", 4, 12);
        fault("row 1 1 1;row 100 1 1;", 4, 14);
        fault("row 100 1 21;", 4, 4);
        fault("units 31 x", 4, 6);
    }

    private static void promise5ToldAlready() {
        for (String word : new String[] {"units", "batch", "age"}) {
            String line = word + (word.equals("units") ? " 40;" : " 4;");
            fault(line + line, 5, line.length());
            fault(line + word, 5, line.length());
            fault(line + word + " 99", 5, line.length());
            fault("units 32;batch 1;age 1;" + word, 5, 23);
        }
    }

    private static void promise5BehindARow() {
        for (String word : new String[] {"units 40;", "batch 4;", "age 4;"}) fault("row 1 1 1;" + word, 5, 10);
        due.is("a row behind a row", States.loads("row 1 1 1;row 1 1 1;"), 1);
    }

    private static void promise5BehindAnAct() {
        for (String act : new String[] {"begin;", "vacuum;", "prune 0;", "repack;"}) {
            for (String word : new String[] {"units 40;", "batch 4;", "age 4;", "row 1 1 1;"}) {
                fault(act + word, 5, act.length());
                fault(act + act + word, 5, 2 * act.length());
            }
        }
    }

    private static void promise5AFortyFirstRow() {
        String forty = "row 1 1 1;".repeat(40);
        due.is("forty", States.loads(forty), 1);
        fault(forty + "row 1 1 1;", 6, 400);
        fault(forty + "\n row 1 1 1;", 6, 402);
    }

    private static void promise5ARowWithoutPlace() {
        String six = "units 32;" + "row 1 1 20;".repeat(6);
        due.is("as much as is FREE", States.loads(six + "row 1 1 12;"), 1);
        fault(six + "row 1 1 13;", 6, 75);
        fault(six + "row 1 1 12;".repeat(6) + "row 1 1 1;", 6, 75 + 66);
    }

    /** Fault 6 is at the WORD, but behind its NUMBERS: what is wrong with those comes first. */
    private static void promise5ARowTooManyBehindItsNumbers() {
        String forty = "row 1 1 1;".repeat(40);
        fault(forty + "row 100 1 1;", 4, 404);
        fault(forty + "row 1 1 0;", 4, 408);
        fault(forty + "row 1 1;", 2, 407);
        fault(forty + "row 1 1 !;", 1, 408);
        fault(forty + "row 1 1 1", 6, 400);
        fault(forty + "row 1 1 1 !", 6, 400);
    }

    /** Each ACT refused, with the calls' STATUS in brackets. */
    private static void promise5ActsThatAreRefused() {
        refusedAct("", "insert 2 1 1 1");
        refusedAct("", "insert 1 1 1 1");
        refusedAct("begin;", "insert 2 100 1 1");
        refusedAct("begin;", "insert 2 1 1 0");
        refusedAct("begin;", "insert 2 1 1 21");
        refusedAct("row 1 1 1;".repeat(40) + "begin;", "insert 2 1 1 1");
        refusedAct("units 32;" + "row 1 1 20;".repeat(6) + "begin;", "insert 2 1 1 13");
        refusedAct("begin;", "update 2 0 1 1 1");
        refusedAct("row 1 1 1;", "update 1 0 1 1 1");
        refusedAct("row 1 1 1;begin;begin;delete 2 0;", "update 3 0 1 1 1");
        refusedAct("row 1 1 1;begin;begin;delete 2 0;commit 2;", "update 3 0 1 1 1");
        refusedAct("row 1 1 1;begin;delete 2 0;", "update 2 0 1 1 1");
        refusedAct("row 1 1 1;begin;delete 2 0;", "delete 2 0");
        refusedAct("begin;", "delete 2 0");
        refusedAct("", "commit 1");
        refusedAct("", "commit 0");
        refusedAct("", "abort 2");
        refusedAct("begin;commit 2;", "abort 2");
        refusedAct("", "prune 6");
        refusedAct("", "look 1 1");
        refusedAct("begin;", "look 2 100");
        refusedAct("begin;", "repack");
        refusedAct("begin;".repeat(59), "begin");
    }

    private static void refusedAct(String ahead, String act) {
        fault(ahead + act + ";", 7, ahead.length());
    }

    /** Fault 7 is at the WORD, but behind its NUMBERS: what is wrong with those comes first. */
    private static void promise5ARefusedActBehindItsNumbers() {
        fault("insert 2 1 1;", 2, 12);
        fault("insert 2 1 1 !", 1, 13);
        fault("insert 2 1 1 1000;", 1, 13);
        fault("commit x;", 2, 7);
        fault("commit 1", 7, 0);
        fault("commit 1 !", 7, 0);
    }

    private static void promise5TheFirstAlongTheText() {
        fault("x;!", 2, 0);
        fault("!x;", 1, 0);
        fault("units 31;units 31;!", 4, 6);
        fault("commit 1;x;", 7, 0);
        fault("begin;commit 3;begin begin", 7, 6);
        // What stands behind an ACT is at fault, not that ACT, though it could not be done again.
        fault("begin;commit 2;7", 2, 15);
        fault("begin;commit 2;;", 2, 15);
        fault("begin;commit 2;x", 2, 15);
        fault("begin;commit 2;!", 1, 15);
        fault("begin;commit 2;commit !", 1, 22);
    }

    private static void promise5OfOneTokenTheLeastKind() {
        fault("row 1 1 1;units;", 5, 10);
        fault("begin;row 100 1 1;", 5, 6);
        fault("row 1 1 1;".repeat(40) + "begin;row 1 1 1;", 5, 406);
        fault("units 9999;", 1, 6);
        fault("units 40;units !", 5, 9);
    }
}
