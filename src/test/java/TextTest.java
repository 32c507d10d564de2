/** Promises 1 to 5: a new object, the status, the tape, the text and its faults. */
final class TextTest {
    private static final Due due = new Due("TextTest");
    private static final int NONE = RowPruner.NONE;

    public static void main(String[] args) {
        due.is("NONE", NONE, -1);
        promise1();
        promise2();
        promise3();
        promise4();
        promise4Refused();
        promise5();
        faultsOfTokens();
        faultsOfNumbers();
        faultsOfOrder();
        faultsOfRows();
        faultsOfActs();
        loadsOneBehindTheOther();
        due.end();
    }

    private static void promise1() {
        RowPruner x = new RowPruner();
        due.is("a new object's status()", x.status(), 0);
        int[] many = {64, 3, 5, 0, 2, 2, 0, 0, 0, 0, 0, 0, 0, 0, 0, 0, 0};
        for (int i = 0; i < many.length; i++) due.good("a new object's many(" + i + ")", x, x.many(i), many[i]);
        for (int i = 0; i < 8; i++) due.good("a new object's counts(" + i + ")", x, x.counts(i), 0);
        for (int p = 0; p < 6; p++) {
            due.good("page 0", x, x.page(p, 0), 0);
            due.good("page 1", x, x.page(p, 1), 64);
            due.good("page 4", x, x.page(p, 4), 0);
        }
        due.good("txn(1, 0)", x, x.txn(1, 0), 1);
        due.refused("event(0, 0)", x, x.event(0, 0), 5);
        due.refused("back()", x, x.back(), 5);
        due.refused("load(1) of an empty tape", x, x.load(1), 1);
    }

    private static void promise2() {
        RowPruner x = new RowPruner();
        x.many(17);
        due.is("status()", x.status(), 1);
        due.is("status() again", x.status(), 1);
        x.feed(0, 0, 0, 0, 0);
        due.is("feed() has no status", x.status(), 1);
        x.fault(9);
        due.is("fault() has none", x.status(), 1);
        x.many(0);
        due.is("status()", x.status(), 0);
        x.versions(0);
        due.is("status()", x.status(), 2);
        x.mark();
        x.versions(0);
        x.back();
        due.is("status() behind back()", x.status(), 0);
    }

    private static void promise3() {
        RowPruner x = new RowPruner();
        due.is("feed", x.feed(0x62656769, 0x6e3b0a20, 0x62656769, 0x6e203b41, 0xff000000), 20);
        due.is("load(15): two begin lines, the highest byte first", x.load(15), 0);
        due.is("many(4)", x.many(4), 4);
        for (int i = 1; i <= 35; i++) due.is("feed " + i, x.feed(0, 0, 0, 0, 0x3b414243 - i), 20 * i);
        due.is("feed of more than 700", x.feed(1, 2, 3, 4, 5), NONE);
        due.is("feed of more than 700 again", x.feed(1, 2, 3, 4, 5), NONE);
        due.refused("load(701)", x, x.load(701), 1);
        due.refused("load(700)", x, x.load(700), 9);
        due.is("the tape is empty then", x.feed(0xff000000, 0, 0, 0, 0), 20);
        due.refused("a byte of 255", x, x.load(1), 9);
        due.is("fault(0)", x.fault(0), 1);
        due.is("fault(1)", x.fault(1), 0);
    }

    private static void promise4() {
        RowPruner x = new RowPruner();
        due.good("load", x, Due.load(x, "units 96 ;\n batch 8;age 30;row 0 0 1;row 99 999 20;begin;insert 2 7 8 9;"), 3);
        due.is("UNITS", x.many(0), 96);
        due.is("BATCH", x.many(1), 8);
        due.is("AGE", x.many(2), 30);
        due.is("MAKER of a row", x.version(0, 1, 4), 1);
        due.is("KEY of a row", x.version(0, 1, 1), 99);
        due.is("VALUE of a row", x.version(0, 1, 2), 999);
        due.is("SIZE of a row", x.version(0, 1, 3), 20);
        due.is("the next one's number", x.many(4), 3);
        due.is("no event of transaction 1", x.event(0, 0), NONE);
        x.mark();
        due.good("load(0)", x, x.load(0), 0);
        due.is("UNITS without", x.many(0), 64);
        due.is("BATCH without", x.many(1), 3);
        due.is("AGE without", x.many(2), 5);
        due.is("ROWS", x.many(3), 0);
        due.is("the next one", x.many(4), 2);
        due.is("MARKS stay", x.many(14), 1);
        due.is("back", x.back(), 0);
        due.is("ROWS behind back()", x.many(3), 3);
        Due.feed(x, "row 1 1 1;row 1 1 1;");
        due.good("load(10) of 20", x, x.load(10), 1);
        due.refused("the tape is empty then", x, x.load(1), 1);
        due.good("tokens without blanks", x, Due.load(x, "units32;row1 2 3;begin;"), 1);
        due.good("KEY", x, x.version(0, 0, 1), 1);
        due.good("numbers with noughts ahead", x, Due.load(x, "units 064;batch 008;age 00;row 007 000 001;"), 1);
        due.good("BATCH", x, x.many(1), 8);
        due.good("all ACTS", x, Due.load(x, "row 1 1 20;row 2 2 20;begin;insert 2 3 3 20;update 2 0 1 5 4;delete 2 1;commit 2;"
            + "begin;abort 3;prune 0;vacuum;begin;look 4 1;commit 4;repack;"), 3);
        due.is("READS of the text count", x.counts(7), 1);
        due.is("found() tells of the text's look", x.found(0, 1), 5);
        due.is("PASSES of the text count", x.counts(3), 1);
    }

    private static void promise4Refused() {
        RowPruner x = Due.loaded("units 50;row 1 1 1;begin;update 2 0 1 2 3;look 2 1;");
        Due.feed(x, "row 1 2 3;");
        due.refused("load(-1)", x, x.load(-1), 1);
        due.refused("load(21)", x, x.load(21), 1);
        due.is("the tape stays", x.feed(0, 0, 0, 0, 0), 40);
        due.is("many(0)", x.many(0), 50);
        due.refused("load(40)", x, x.load(40), 9);
        due.is("the tape is empty", x.feed(0, 0, 0, 0, 0), 20);
        due.is("UNITS stay", x.many(0), 50);
        due.is("VERSIONS stay", x.many(7), 2);
        due.is("what was found stays", x.found(0, 1), 2);
        due.is("READS stay", x.counts(7), 1);
        x.load(0);
        due.refused("what was found is gone", x, x.found(0, 1), 5);
    }

    private static void promise5() {
        RowPruner x = new RowPruner();
        due.is("fault(0) ahead of any", x.fault(0), NONE);
        due.is("fault(1) ahead of any", x.fault(1), NONE);
        x.load(5);
        due.is("fault(0) behind a load with status 1", x.fault(0), NONE);
        x.load(0);
        due.is("fault(0) without one", x.fault(0), 0);
        due.is("fault(1) without one", x.fault(1), NONE);
        Due.load(x, "begin;foo");
        due.is("fault(0)", x.fault(0), 2);
        due.is("fault(1)", x.fault(1), 6);
        due.is("fault(2)", x.fault(2), NONE);
        due.is("fault(-1)", x.fault(-1), NONE);
        x.load(5);
        due.is("fault(0) stays behind status 1", x.fault(0), 2);
        x.mark();
        Due.load(x, "row 1 1 0;");
        x.back();
        due.is("fault(0) is not taken back", x.fault(0), 4);
        due.is("fault(1) is not taken back", x.fault(1), 8);
    }

    private static void fault(String text, int kind, int place) {
        RowPruner x = new RowPruner();
        due.refused("load of " + text, x, Due.load(x, text), 9);
        due.is("fault(0) of " + text, x.fault(0), kind);
        due.is("fault(1) of " + text, x.fault(1), place);
    }

    private static void faultsOfTokens() {
        fault("A", 1, 0);
        fault("begin;\t", 1, 6);
        fault("begin;\r\n", 1, 6);
        fault("begiN;", 2, 0);
        fault("row 1 -1 1;", 1, 6);
        fault("1000", 1, 0);
        fault("row 1234 1 1;", 1, 4);
        fault("begin 1000;", 1, 6);
        fault("12;", 2, 0);
        fault(";", 2, 0);
        fault("begin;;", 2, 6);
        fault("beginn;", 2, 0);
        fault("begin;beg", 2, 6);
        fault("row 1 1;", 2, 7);
        fault("row 1 1 1 1;", 2, 10);
        fault("row 1 x 1;", 2, 6);
        fault("row 1 1 1x;", 2, 9);
        fault("row 1 1 1", 2, 9);
        fault("row 1 1 1  \n ", 2, 13);
        fault("begin begin;", 2, 6);
        fault("begin", 2, 5);
        fault("commit;", 2, 6);
        fault("begin;commit 2;;", 2, 15);
        fault("begin;commit 2;commit2", 7, 15);
    }

    private static void faultsOfNumbers() {
        fault("units 31;", 4, 6);
        fault("units 97;", 4, 6);
        fault("batch 0;", 4, 6);
        fault("batch 9;", 4, 6);
        fault("age 31;", 4, 4);
        fault("row 100 1000 1;", 4, 4);
        fault("row 99 1 0;", 4, 9);
        fault("row 99 1 21;", 4, 9);
        due.is("the ends of the ranges", Due.loaded("units 32;batch 1;age 0;row 0 0 1;").many(2), 0);
        due.is("the ends of the ranges", Due.loaded("age 30;units 96;batch 8;row 99 999 20;").many(0), 96);
    }

    private static void faultsOfOrder() {
        fault("units 40;units 99;", 5, 9);
        fault("batch 1;batch 1;", 5, 8);
        fault("age 1;age 1;", 5, 6);
        fault("units 40;batch 1;age 1;units 40;", 5, 23);
        fault("row 1 1 1;batch 0;", 5, 10);
        fault("row 1 1 1;age;", 5, 10);
        fault("vacuum;units 40;", 5, 7);
        fault("vacuum;row 100 1 1;", 5, 7);
        fault("vacuum;row 1 1 1;", 5, 7);
    }

    private static void faultsOfRows() {
        String forty = "row 1 1 1;".repeat(40);
        due.is("forty rows", Due.loaded(forty).many(3), 40);
        fault(forty + "row 1 1 1;", 6, 400);
        fault(forty + "row 1 1 0;", 4, 408);
        fault(forty + "row 1 1;", 2, 407);
        fault(forty + "row 1 1 1", 6, 400);
        fault(forty + "row 1 1 1 X", 6, 400);
        String six = "units 32;" + "row 1 1 20;".repeat(6);
        due.is("six rows", Due.loaded(six + "row 1 1 12;").many(3), 7);
        fault(six + "row 1 1 13;", 6, 75);
        fault(six + "row 1 1 21;", 4, 83);
    }

    private static void faultsOfActs() {
        fault("commit 1;", 7, 0);
        fault("commit 2;", 7, 0);
        fault("begin;insert 2 100 1 1;", 7, 6);
        fault("begin;insert 2 1 1 0;", 7, 6);
        fault("begin;insert 2 1 1;", 2, 18);
        fault("begin;repack X", 7, 6);
        fault("begin;update 2 0 1 1 1;", 7, 6);
        fault("begin;delete 2 0;", 7, 6);
        fault("look 1 1;", 7, 0);
        fault("prune 6;", 7, 0);
        fault("abort 1;", 7, 0);
        fault("begin;".repeat(60), 7, 354);
        due.is("59 begin", Due.loaded("begin;".repeat(59)).many(4), 61);
    }

    /** No text leaves anything behind that the next one could stumble over. */
    private static void loadsOneBehindTheOther() {
        RowPruner x = new RowPruner();
        String good = "units 40;batch 2;age 1;row 1 2 3;begin;";
        String[] bad = {"begin", "row", "row 1 1 1", "row 100", "units 40;units", "vacuum;row", "commit 9;", "begin;begin x", "@"};
        for (String text : bad) {
            due.refused("load of " + text, x, Due.load(x, text), 9);
            due.good("a good text behind " + text, x, Due.load(x, good), 1);
            due.is("fault(0)", x.fault(0), 0);
            due.is("fault(1)", x.fault(1), NONE);
            due.is("the next one", x.many(4), 3);
            due.is("BATCH", x.many(1), 2);
        }
        Due.feed(x, "begin;begin;begin;be");
        due.good("a text ends where it is told to", x, x.load(6), 0);
        due.is("the next one", x.many(4), 3);
        Due.feed(x, "begin;begin;begin;be");
        due.refused("a word that is cut", x, x.load(8), 9);
        due.is("fault(1)", x.fault(1), 6);
    }
}
