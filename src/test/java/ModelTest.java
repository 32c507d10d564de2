import java.util.ArrayList;
import java.util.List;

/**
 * Long runs of calls, the same ones to the program and to the second reading of the document. No object is
 * used for more than 512 calls: where more is asked, the run is made again on another new one.
 */
final class ModelTest {
    private static final int CALLS = 512;

    private long seed;
    private final Due due = new Due("ModelTest");
    private RowPruner x;
    private int used;
    /** The calls that may have changed something, as they were made. */
    private final List<Cases.Run> made = new ArrayList<>();
    private Model m;
    private StringBuilder told;
    // What kind of run it is.
    private int keys;
    private int sizes;
    private int opens;
    private int waits;

    public static void main(String[] args) {
        int runs = args.length > 0 ? Integer.parseInt(args[0]) : 240;
        ModelTest t = new ModelTest();
        for (int run = 0; run < runs && t.due.wrong() == 0; run++) t.walk(run);
        for (int run = 0; run < runs * 40 && t.due.wrong() == 0; run++) t.texts(run);
        t.due.end();
    }

    private int below(int n) {
        seed = seed * 6364136223846793005L + 1442695040888963407L;
        return (int) ((seed >>> 33) % n);
    }

    private void start(int run) {
        seed = run * 7919L + 17;
        for (int i = 0; i < 5; i++) below(2);
        x = new RowPruner();
        used = 0;
        made.clear();
        m = new Model();
        told = new StringBuilder();
        keys = new int[] {1, 2, 3, 6, 12}[below(5)];
        sizes = new int[] {2, 5, 9, 20}[below(4)];
        opens = new int[] {1, 2, 3, 5, 9}[below(5)];
        waits = below(3) == 0 ? 25 : 3;
    }

    private void walk(int run) {
        start(run);
        int calls = new int[] {25, 80, 200, 300, 400}[below(5)];
        int often = 1 + calls / 4;
        beginning(below(8));
        int asked = 0;
        while (made.size() < calls && due.wrong() == 0) {
            step();
            for (int k = below(4); k > 0; k--) odd();
            if (made.size() < asked + often && made.size() < calls) continue;
            asked = made.size();
            compareAll();
        }
        if (due.wrong() > 0) System.out.println("run " + run + ":\n" + told);
    }

    /** Where there is hardly any room: in the pages, in the slots, for rows, for entries, for transactions. */
    private void beginning(int kind) {
        switch (kind) {
            case 0: loadText("units 32;" + "row 1 1 20;".repeat(6) + "row 2 1 2;".repeat(18) + "begin;begin;"); break;
            case 1: loadText("units 33;age 0;" + "row 2 1 20;row 1 1 12;".repeat(6) + "row 0 1 1;begin;"); break;
            case 2: loadText("units 96;" + "row 1 1 1;".repeat(38) + "begin;begin;"); break;
            case 3:
                loadText("units 96;" + "row 1 1 1;".repeat(30) + "begin;begin;begin;");
                for (int row = 0; row < 26; row++) call("update", 2, row, 2, 2, 1);
                break;
            case 4: loadText("row 1 1 5;row 2 2 5;" + "begin;".repeat(40)); break;
            default: break;
        }
    }

    /** Makes the run again on a new object if the one that there is can't be asked so much more. */
    private void makeRoomFor(int calls) {
        if (used + calls <= CALLS) {
            used += calls;
            return;
        }
        x = new RowPruner();
        for (Cases.Run one : made) one.on(x);
        used = made.size() + calls;
    }

    private int call(String name, int... a) {
        makeRoomFor(2);
        int want = m.call(name, a);
        int got = real(name, a);
        made.add(y -> real(y, name, a));
        StringBuilder call = new StringBuilder(name).append('(');
        for (int i = 0; i < a.length; i++) call.append(i == 0 ? "" : ", ").append(a[i]);
        call.append(')');
        told.append(call).append(" -> ").append(want).append('\n');
        due.is(call.toString(), got, want);
        due.is(call + " status()", x.status(), m.status);
        return want;
    }

    private int txn() {
        int next = m.now.txns.size() + 1;
        if (below(30) == 0) return below(next + 2) - 1;
        for (int i = 0; i < 40; i++) {
            int t = 1 + below(next - 1);
            if (m.now.stateOf(t) == 0 && (m.now.txn(t).waits == Model.NONE || below(10) == 0)) return t;
        }
        return next - 1;
    }

    private int row() {
        return below(30) == 0 ? below(m.now.rows + 2) - 1 : m.now.rows == 0 ? 0 : below(m.now.rows);
    }

    /** A row that one that is open ends now, if there is one. */
    private int heldRow() {
        for (int i = 0; i < 20 && m.now.rows > 0; i++) {
            int row = below(m.now.rows);
            if (!m.now.versions(v -> v.row == row && m.now.stateOf(v.ender) == 0).isEmpty()) return row;
        }
        return row();
    }

    private int key() {
        return below(60) == 0 ? below(102) - 1 : below(keys);
    }

    private int value() {
        return below(60) == 0 ? 998 + below(3) : below(1000);
    }

    private int size() {
        return below(60) == 0 ? below(23) - 1 : 1 + below(sizes);
    }

    private void step() {
        int open = m.call("many", 15);
        int what = below(100);
        if (open < opens && what < 25) call("begin");
        else if (what < 35) call("commit", txn());
        else if (what < 40) call("abort", txn());
        else if (what < 50) call("insert", txn(), key(), value(), size());
        else if (what < 75) change();
        else if (what < 79) call("delete", txn(), row());
        else if (what < 79 + waits) call(below(8) == 0 ? "ring" : "await", txn(), heldRow());
        else if (below(4) == 0) call("prune", below(20) == 0 ? below(8) - 1 : below(6));
        else if (below(5) == 0) call("vacuum");
        else if (below(2) == 0) call("look", txn(), key());
        else rare();
    }

    /** Any call with any numbers, the ends of the ints among them. */
    private void odd() {
        String[] arity = {"holder best vacuum", "load many counts versions commit abort prune without blocks holds gains most",
            "page entry txn knows event delete await look found set ring reads", "slot version sees trail", "insert", "update"};
        int[] ends = {Integer.MIN_VALUE, -1000, -1, 0, 1, 2, 5, 6, 7, 60, 61, 100, 1000, Integer.MAX_VALUE};
        int[] a = new int[below(arity.length)];
        for (int i = 0; i < a.length; i++) a[i] = ends[below(ends.length)];
        String[] names = arity[a.length].split(" ");
        call(names[below(names.length)], a);
    }

    private void change() {
        int t = txn();
        int row = row();
        int key = key();
        if (below(3) > 0 && m.now.hasTxn(t) && row >= 0 && row < m.now.rows && m.now.seen(t, row) != null) {
            int[] at = m.now.seen(t, row);
            key = m.now.at(at[0], at[1]).version.key;
        }
        call("update", t, row, key, value(), size());
    }

    private void rare() {
        switch (below(8)) {
            case 0: call("repack"); break;
            case 1: call("set", below(3), below(12) - 1); break;
            case 2: call("set", 1, below(3)); break;
            case 3: call("mark"); break;
            case 4: if (below(3) == 0) call("back"); else call("mark"); break;
            case 5:
                for (int t = 1; t <= m.now.txns.size(); t++) if (m.now.stateOf(t) == 0) call(below(3) == 0 ? "abort" : "commit", t);
                call("repack");
                break;
            case 6: if (below(8) == 0) loadSome(); break;
            default: call("begin"); break;
        }
    }

    private void loadSome() {
        StringBuilder text = new StringBuilder();
        text.append("units ").append(32 + below(65)).append(";batch ").append(1 + below(8)).append(";age ").append(below(6)).append(';');
        for (int i = below(12); i > 0; i--) {
            text.append("row ").append(below(keys)).append(' ').append(below(1000)).append(' ').append(1 + below(sizes)).append(";\n");
        }
        for (int i = below(4); i > 0; i--) text.append("begin;");
        loadText(text.toString());
    }

    private void loadText(String text) {
        int[] five = new int[5];
        for (int from = 0; from < text.length(); from += 20) {
            for (int i = 0; i < 20; i++) {
                int at = from + i;
                five[i / 4] = five[i / 4] << 8 | (at < text.length() ? text.charAt(at) : 0);
            }
            makeRoomFor(1);
            int[] a = five.clone();
            made.add(y -> y.feed(a[0], a[1], a[2], a[3], a[4]));
            due.is("feed", x.feed(a[0], a[1], a[2], a[3], a[4]), m.feed(a));
        }
        told.append(text).append('\n');
        call("load", text.length() + (below(40) == 0 ? below(40) - 20 : 0));
        makeRoomFor(2);
        due.is("fault(0)", x.fault(0), m.fault(0));
        due.is("fault(1)", x.fault(1), m.fault(1));
        if (m.status == 1) call("load", 0);
    }

    private void compareAll() {
        for (int i = -1; i <= 17; i++) ask("many", i);
        for (int i = -1; i <= 8; i++) ask("counts", i);
        for (int i = -1; i <= 6; i++) ask("gains", i);
        ask("holder");
        ask("best");
        for (int p = -1; p <= 6; p++) {
            for (int w = -1; w <= 5; w++) ask("page", p, w);
            ask("most", p);
            for (int s = -1; s <= 10; s++) {
                for (int w = -1; w <= 4; w++) ask("slot", p, s, w);
                for (int w = -1; w <= 12; w++) ask("version", p, s, w);
            }
        }
        for (int i = -1; i <= 60; i++) for (int w = -1; w <= 4; w++) ask("entry", i, w);
        for (int i = -1; i <= 24; i++) for (int w = -1; w <= 2; w++) ask("event", i, w);
        for (int i = -1; i <= 12; i++) for (int w = -1; w <= 5; w++) ask("found", i, w);
        for (int row = -1; row <= m.now.rows; row++) {
            ask("versions", row);
            for (int i = -1; i <= 4; i++) for (int w = -1; w <= 2; w++) ask("trail", row, i, w);
        }
        compareTxns();
    }

    private void compareTxns() {
        int next = m.now.txns.size() + 1;
        for (int t = -1; t <= next; t++) {
            for (int w = -1; w <= 4; w++) ask("txn", t, w);
            ask("without", t);
            ask("blocks", t);
            ask("holds", t);
            ask("reads", t, below(keys + 1) - 1);
            for (int i = 0; i < 6; i++) ask("knows", t, below(next + 2) - 1);
            for (int i = 0; i < 4; i++) ask("sees", t, row(), below(6) - 1);
            ask("ring", t, row());
        }
        for (int row = 0; row < m.now.rows; row++) ask("sees", txn(), row, below(4));
    }

    private void ask(String name, int... a) {
        makeRoomFor(2);
        int want = m.call(name, a);
        int got = real(name, a);
        if (got != want || x.status() != m.status) {
            StringBuilder call = new StringBuilder(name);
            for (int i : a) call.append(' ').append(i);
            due.is(call.toString(), got, want);
            due.is(call + " status()", x.status(), m.status);
        }
    }

    /** Texts that are nearly right: what is read, or the first fault and its place. */
    private void texts(int run) {
        start(run);
        String[] heads = {"units 64", "batch 2", "age 0", "units 31", "batch 0", "age 31", "units 97", "batch 9"};
        String[] acts = {"begin", "begin", "insert 2 3 4 5", "insert 2 1 2 20", "update 2 0 1 2 3", "delete 2 0", "commit 2",
            "abort 3", "prune 0", "vacuum", "look 2 1", "repack", "prune 6", "look 3 100", "insert 3 100 1 1"};
        StringBuilder text = new StringBuilder();
        for (int i = below(4); i > 0; i--) text.append(heads[below(below(4) == 0 ? 8 : 3)]).append(end());
        for (int i = below(6); i > 0; i--) text.append("row ").append(below(3)).append(" 9 ").append(1 + below(20)).append(end());
        for (int i = below(8); i > 0; i--) text.append(acts[below(acts.length)]).append(end());
        for (int i = below(3); i > 0 && text.length() > 0; i--) spoil(text);
        loadText(text.toString());
        for (int i = 0; i <= 16; i++) call("many", i);
        for (int i = 0; i <= 7; i++) call("counts", i);
    }

    private String end() {
        return new String[] {";", ";", ";\n", " ; ", ""}[below(40) == 0 ? 4 : below(4)];
    }

    private void spoil(StringBuilder text) {
        int at = below(text.length());
        char[] odd = {' ', '\n', ';', '0', '9', 'a', 'w', 'A', '\t', '-', (char) 0, (char) 200};
        switch (below(4)) {
            case 0: text.deleteCharAt(at); break;
            case 1: text.setCharAt(at, odd[below(odd.length)]); break;
            case 2: text.insert(at, odd[below(odd.length)]); break;
            default: text.setLength(at); break;
        }
    }

    private int real(String name, int... a) {
        return real(x, name, a);
    }

    private static int real(RowPruner x, String name, int... a) {
        switch (name) {
            case "load": return x.load(a[0]);
            case "many": return x.many(a[0]);
            case "counts": return x.counts(a[0]);
            case "page": return x.page(a[0], a[1]);
            case "slot": return x.slot(a[0], a[1], a[2]);
            case "version": return x.version(a[0], a[1], a[2]);
            case "entry": return x.entry(a[0], a[1]);
            case "txn": return x.txn(a[0], a[1]);
            case "knows": return x.knows(a[0], a[1]);
            case "sees": return x.sees(a[0], a[1], a[2]);
            case "versions": return x.versions(a[0]);
            case "trail": return x.trail(a[0], a[1], a[2]);
            case "event": return x.event(a[0], a[1]);
            case "begin": return x.begin();
            case "commit": return x.commit(a[0]);
            case "abort": return x.abort(a[0]);
            case "insert": return x.insert(a[0], a[1], a[2], a[3]);
            case "update": return x.update(a[0], a[1], a[2], a[3], a[4]);
            case "delete": return x.delete(a[0], a[1]);
            case "await": return x.await(a[0], a[1]);
            case "prune": return x.prune(a[0]);
            case "vacuum": return x.vacuum();
            case "look": return x.look(a[0], a[1]);
            case "found": return x.found(a[0], a[1]);
            case "repack": return x.repack();
            case "set": return x.set(a[0], a[1]);
            case "mark": return x.mark();
            case "back": return x.back();
            case "without": return x.without(a[0]);
            case "ring": return x.ring(a[0], a[1]);
            case "blocks": return x.blocks(a[0]);
            case "holder": return x.holder();
            case "holds": return x.holds(a[0]);
            case "gains": return x.gains(a[0]);
            case "best": return x.best();
            case "reads": return x.reads(a[0], a[1]);
            case "most": return x.most(a[0]);
            default: throw new IllegalArgumentException(name);
        }
    }
}
