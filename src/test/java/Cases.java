import java.lang.reflect.InvocationTargetException;
import java.lang.reflect.Method;
import java.util.ArrayList;
import java.util.Comparator;
import java.util.List;

/**
 * What the tests of boundary cases share. A case is a static method whose name begins with the number
 * of its promise. It makes runs of calls on new objects, each of which is used for at most 512 calls:
 * where more is asked, the run is made again on another new object.
 */
final class Cases {
    /** Calls that lead a new object to where a case begins. */
    interface Run {
        void on(RowPruner x);
    }

    interface Call {
        int on(RowPruner x);
    }

    /** A call with one number left open. */
    interface Asked {
        int on(RowPruner x, int number);
    }

    record Question(String name, Call call) { }

    /** With its status a question is two calls; the run ahead of them may have some 300. */
    private static final int QUESTIONS_AT_ONCE = 100;
    private static final int NONE = RowPruner.NONE;

    final Due due;
    private final Class<?> test;
    private final int first;
    private final int last;

    Cases(Class<?> test, int first, int last) {
        this.due = new Due(test.getSimpleName());
        this.test = test;
        this.first = first;
        this.last = last;
    }

    void runAll() {
        List<Method> cases = new ArrayList<>();
        for (Method method : test.getDeclaredMethods()) {
            if (method.getName().matches("promise\\d+\\D.*")) cases.add(method);
        }
        cases.sort(Comparator.comparingInt(Cases::promiseOf).thenComparing(Method::getName));
        for (int promise = first; promise <= last; promise++) {
            int wanted = promise;
            long many = cases.stream().filter(method -> promiseOf(method) == wanted).count();
            due.is("cases of promise " + promise, many > 0 ? 1 : 0, 1);
        }
        for (Method method : cases) runOne(method);
        due.about("");
        System.out.println(test.getSimpleName() + ": " + cases.size() + " cases");
        due.end();
    }

    private static int promiseOf(Method method) {
        return Integer.parseInt(method.getName().replaceAll("\\D+(\\d+).*", "$1"));
    }

    private void runOne(Method method) {
        due.about(method.getName());
        method.setAccessible(true);
        try {
            method.invoke(null);
        } catch (InvocationTargetException | IllegalAccessException e) {
            due.is("the case ends with " + (e.getCause() == null ? e : e.getCause()), 1, 0);
        }
    }

    // ---- runs of calls

    static final Run NEW = x -> { };

    /** A text that is loaded. */
    static Run text(String text) {
        return x -> {
            if (Due.load(x, text) == NONE) {
                throw new IllegalStateException("a case's own text is at fault: " + text + " " + x.fault(0) + " at " + x.fault(1));
            }
        };
    }

    /** A run with more calls behind it, none of which may be refused. */
    static Run then(Run run, Call... more) {
        return x -> {
            run.on(x);
            for (int i = 0; i < more.length; i++) {
                more[i].on(x);
                if (x.status() != 0) throw new IllegalStateException("call " + i + " behind a run is refused: " + x.status());
            }
        };
    }

    /** The same call so often. */
    static Call[] times(int many, Call call) {
        Call[] calls = new Call[many];
        for (int i = 0; i < many; i++) calls[i] = call;
        return calls;
    }

    static RowPruner after(Run run) {
        RowPruner x = new RowPruner();
        run.on(x);
        return x;
    }

    // ---- what is held against what is due

    /** The call answers so, with status 0. */
    void good(String what, Run run, Call call, int want) {
        RowPruner x = after(run);
        due.good(what, x, call.on(x), want);
    }

    /** The call answers so, with status 0, and all stays as it is. */
    void tells(String what, Run run, Call call, int want) {
        good(what, run, call, want);
        changesNothing(what, run, call);
    }

    /** The call tells these for the numbers 0, 1, .. */
    void tellsEach(String what, Run run, Asked asked, int... want) {
        for (int i = 0; i < want.length; i++) {
            int number = i;
            tells(what + " with " + i, run, x -> asked.on(x, number), want[i]);
        }
    }

    /** The call is refused for each of these numbers. */
    void refusedEach(String what, Run run, Asked asked, int why, int... numbers) {
        for (int number : numbers) refused(what + " with " + number, run, x -> asked.on(x, number), why);
    }

    /** The call is refused with this status, and all stays as it is. */
    void refused(String what, Run run, Call call, int why) {
        RowPruner x = after(run);
        due.refused(what, x, call.on(x), why);
        changesNothing(what, run, call);
    }

    void changesNothing(String what, Run run, Call call) {
        Run with = x -> {
            run.on(x);
            call.on(x);
        };
        sameButTape(what, run, with);
        sameTape(what, run, with);
    }

    /** Two runs end alike, but for the tape and what fault() tells. */
    void sameButTape(String what, Run one, Run other) {
        List<Question> questions = questions(one);
        List<String> was = answers(questions, one);
        List<String> is = answers(questions, other);
        int differ = 0;
        for (int i = 0; i < was.size() && differ == 0; i++) {
            if (!was.get(i).equals(is.get(i))) {
                differ++;
                due.is(what + ": " + was.get(i) + " is now " + is.get(i), 1, 0);
            }
        }
        due.is(what + ": what differs", differ, 0);
        for (int depth = after(one).many(14); depth > 0; depth--) sameMark(what, one, other, depth);
    }

    private void sameMark(String what, Run one, Run other, int depth) {
        RowPruner x = after(one);
        RowPruner y = after(other);
        for (int i = 0; i < depth; i++) due.is(what + ", taken back", y.back(), x.back());
        for (int w = 0; w < 17; w++) due.is(what + ", taken back: many(" + w + ")", y.many(w), x.many(w));
        for (int w = 0; w < 8; w++) due.is(what + ", taken back: counts(" + w + ")", y.counts(w), x.counts(w));
        for (int p = 0; p < 6; p++) {
            for (int w = 0; w < 5; w++) due.is(what + ", taken back: page", y.page(p, w), x.page(p, w));
        }
    }

    private void sameTape(String what, Run one, Run other) {
        RowPruner x = after(one);
        RowPruner y = after(other);
        due.is(what + ": fault(0)", y.fault(0), x.fault(0));
        due.is(what + ": fault(1)", y.fault(1), x.fault(1));
        int longer = x.feed(0, 0, 0, 0, 0);
        due.is(what + ": the tape", y.feed(0, 0, 0, 0, 0), longer);
        int all = longer == NONE ? 700 : longer;
        due.is(what + ": load() of the tape", y.load(all), x.load(all));
        due.is(what + ": its fault", y.fault(1), x.fault(1));
    }

    // ---- all that can be asked

    private static List<String> answers(List<Question> questions, Run run) {
        List<String> told = new ArrayList<>();
        RowPruner x = null;
        for (int i = 0; i < questions.size(); i++) {
            if (i % QUESTIONS_AT_ONCE == 0) x = after(run);
            int got = questions.get(i).call().on(x);
            told.add(questions.get(i).name() + " " + got + " (" + x.status() + ")");
        }
        return told;
    }

    private static List<Question> questions(Run run) {
        RowPruner x = after(run);
        List<Question> all = new ArrayList<>();
        for (int w = 0; w < 17; w++) one("many", all, RowPruner::many, w);
        for (int w = 0; w < 8; w++) one("counts", all, RowPruner::counts, w);
        for (int w = 0; w < 6; w++) one("gains", all, RowPruner::gains, w);
        all.add(new Question("holder()", RowPruner::holder));
        all.add(new Question("best()", RowPruner::best));
        for (int p = 0; p < 6; p++) pageQuestions(all, p, x.page(p, 0));
        for (int i = 0; i < x.many(6); i++) for (int w = 0; w < 4; w++) two("entry", all, RowPruner::entry, i, w);
        for (int i = 0; i < 24; i++) for (int w = 0; w < 2; w++) two("event", all, RowPruner::event, i, w);
        for (int i = 0; x.found(i, 0) != NONE; i++) for (int w = 0; w < 5; w++) two("found", all, RowPruner::found, i, w);
        rowQuestions(all, x);
        txnQuestions(all, x);
        return all;
    }

    private static void pageQuestions(List<Question> all, int page, int slots) {
        for (int w = 0; w < 5; w++) two("page", all, RowPruner::page, page, w);
        one("most", all, RowPruner::most, page);
        for (int s = 0; s < slots; s++) {
            int slot = s;
            for (int w = 0; w < 4; w++) {
                int what = w;
                all.add(new Question("slot " + page + " " + s + " " + w, x -> x.slot(page, slot, what)));
            }
            for (int w = 0; w < 12; w++) {
                int what = w;
                all.add(new Question("version " + page + " " + s + " " + w, x -> x.version(page, slot, what)));
            }
        }
    }

    private static void rowQuestions(List<Question> all, RowPruner x) {
        int rows = x.many(3);
        for (int r = 0; r < rows; r++) {
            int row = r;
            one("versions", all, RowPruner::versions, row);
            for (int k = 0; k < x.versions(row); k++) {
                int i = k;
                all.add(new Question("trail " + row + " " + i + " 0", y -> y.trail(row, i, 0)));
                all.add(new Question("trail " + row + " " + i + " 1", y -> y.trail(row, i, 1)));
            }
        }
    }

    /** Where there are many transactions the first ones and the last ones stand for all. */
    private static void txnQuestions(List<Question> all, RowPruner x) {
        int rows = x.many(3);
        int next = x.many(4);
        for (int t = 1; t < next; t++) {
            int txn = t;
            for (int w = 0; w < 4; w++) two("txn", all, RowPruner::txn, txn, w);
            one("without", all, RowPruner::without, txn);
            one("blocks", all, RowPruner::blocks, txn);
            if (t > 4 && t < next - 4) continue;
            one("holds", all, RowPruner::holds, txn);
            for (int key = 0; key < 4; key++) two("reads", all, RowPruner::reads, txn, key);
            for (int other = 1; other < next; other++) two("knows", all, RowPruner::knows, txn, other);
            for (int r = 0; r < Math.min(rows, 12); r++) {
                int row = r;
                two("ring", all, RowPruner::ring, txn, row);
                for (int w = 0; w < 4; w++) {
                    int what = w;
                    all.add(new Question("sees " + t + " " + r + " " + w, y -> y.sees(txn, row, what)));
                }
            }
        }
    }

    private interface One {
        int ask(RowPruner x, int a);
    }

    private interface Two {
        int ask(RowPruner x, int a, int b);
    }

    private static void one(String name, List<Question> all, One one, int a) {
        all.add(new Question(name + " " + a, x -> one.ask(x, a)));
    }

    private static void two(String name, List<Question> all, Two two, int a, int b) {
        all.add(new Question(name + " " + a + " " + b, x -> two.ask(x, a, b)));
    }
}
