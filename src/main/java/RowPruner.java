/**
 * A store of rows in pages whose old versions are pruned. ../shared/DOC.md says what each call
 * answers; the words in capitals there are the plain words here.
 *
 * A slot is told by its PLACE: ten times its page and its number in that page.
 */
public final class RowPruner {
    public static final int NONE = -1;

    private static final int PAGES = 6;
    private static final int SLOTS = 10;
    private static final int PLACES = PAGES * SLOTS;
    private static final int ROWS = 40;
    private static final int ENTRIES = 60;
    private static final int TXNS = 60;
    private static final int MARKS = 3;
    private static final int EVENTS = 24;
    private static final int BYTES = 700;

    private static final int LEAST_UNITS = 32;
    private static final int MOST_UNITS = 96;
    private static final int UNITS_WITHOUT = 64;
    private static final int MOST_BATCH = 8;
    private static final int BATCH_WITHOUT = 3;
    private static final int MOST_AGE = 30;
    private static final int AGE_WITHOUT = 5;
    private static final int MOST_KEY = 99;
    private static final int MOST_VALUE = 999;
    private static final int MOST_SIZE = 20;

    // What a slot is.
    private static final int UNUSED = 0;
    private static final int FULL = 1;
    private static final int TURNED = 2;
    private static final int STUB = 3;

    // What a transaction is.
    private static final int OPEN = 0;
    private static final int DONE = 1;
    private static final int GONE = 2;

    // The status of a call.
    private static final int OK = 0;
    private static final int IMPOSSIBLE = 1;
    private static final int UNKNOWN = 2;
    private static final int TOO_MANY = 3;
    private static final int NOT_OPEN = 4;
    private static final int MISSING = 5;
    private static final int UNSEEN = 6;
    private static final int BEING_ENDED = 7;
    private static final int ENDED = 8;
    private static final int FAULTY = 9;
    private static final int STILL_OPEN = 10;
    private static final int WAITING = 11;
    private static final int RINGED = 12;

    // Kinds of events.
    private static final int PAGE_PRUNED = 0;
    private static final int SLOT_STUB = 1;
    private static final int SLOT_TURNED = 2;
    private static final int ENTRY_KILLED = 3;
    private static final int PASS_MADE = 4;
    private static final int VERSION_FROZEN = 5;
    private static final int TXN_DONE = 6;
    private static final int TXN_GONE = 7;

    // What is counted since load().
    private static final int PRUNINGS = 0;
    private static final int VERSIONS_GONE = 1;
    private static final int SLOTS_AGAIN = 2;
    private static final int PASSES = 3;
    private static final int ENTRIES_GONE = 4;
    private static final int FROZEN_COUNT = 5;
    private static final int KILLED_COUNT = 6;
    private static final int READS = 7;
    private static final int COUNTS = 8;

    // The words that a line of the text begins with.
    private static final int UNITS_WORD = 0;
    private static final int BATCH_WORD = 1;
    private static final int AGE_WORD = 2;
    private static final int ROW_WORD = 3;
    private static final int BEGIN_WORD = 4;
    private static final int INSERT_WORD = 5;
    private static final int UPDATE_WORD = 6;
    private static final int DELETE_WORD = 7;
    private static final int COMMIT_WORD = 8;
    private static final int ABORT_WORD = 9;
    private static final int PRUNE_WORD = 10;
    private static final int VACUUM_WORD = 11;
    private static final int LOOK_WORD = 12;
    private static final int REPACK_WORD = 13;
    private static final int WORDS = 14;

    // Faults of the text.
    private static final int NO_FAULT = 0;
    private static final int NO_TOKEN = 1;
    private static final int OUT_OF_PLACE = 2;
    private static final int BAD_NUMBER = 4;
    private static final int TOO_LATE = 5;
    private static final int ROW_REFUSED = 6;
    private static final int ACT_REFUSED = 7;

    // Kinds of tokens.
    private static final int END = 0;
    private static final int WORD = 1;
    private static final int NUMBER = 2;
    private static final int SIGN = 3;
    private static final int NOTHING = 4;

    private final Text text = new Text();
    private final Store now = new Store();
    /** Where a call tries something out, or keeps what it may have to bring back. */
    private final Store spare = new Store();
    /** What load() brings back if the text has a fault: its acts use the spare one. */
    private final Store before = new Store();
    private final Store[] marks = new Store[MARKS];
    private int marked;
    private int status;

    public RowPruner() {
        for (int i = 0; i < marks.length; i++) {
            marks[i] = new Store();
        }
    }

    public int status() {
        return status;
    }

    public int feed(int a, int b, int c, int d, int e) {
        if (!text.hasRoomFor(20)) {
            return NONE;
        }
        text.takeInt(a);
        text.takeInt(b);
        text.takeInt(c);
        text.takeInt(d);
        text.takeInt(e);
        return text.taped;
    }

    public int load(int n) {
        if (n < 0 || n > text.taped) {
            return refuse(IMPOSSIBLE);
        }
        before.copyFrom(now);
        now.makeAnew();
        text.open(n);
        for (int i = 0; i <= BYTES && text.readLine(); i++) {
            perform();
        }
        if (text.fault != NO_FAULT) {
            now.copyFrom(before);
            return refuse(FAULTY);
        }
        return answer(now.rows);
    }

    public int fault(int what) {
        if (!text.loaded) {
            return NONE;
        }
        switch (what) {
            case 0: return text.fault;
            case 1: return text.faultPlace;
            default: return NONE;
        }
    }

    // ---- what there is

    public int many(int what) {
        switch (what) {
            case 0: return answer(now.pages.units);
            case 1: return answer(now.batch);
            case 2: return answer(now.age);
            case 3: return answer(now.rows);
            case 4: return answer(now.txns.next);
            case 5: return answer(now.txns.horizon);
            case 6: return answer(now.index.length);
            case 7:
            case 8:
            case 9:
            case 10:
            case 11: return answer(now.versionsThatAre(what));
            case 12: return answer(now.pages.slotsThatAre(STUB));
            case 13: return answer(now.pages.slotsThatAre(TURNED));
            case 14: return answer(marked);
            case 15: return answer(now.txns.howManyOpen());
            case 16: return answer(now.txns.howManyWait());
            default: return refuse(IMPOSSIBLE);
        }
    }

    public int counts(int what) {
        if (what < 0 || what >= COUNTS) {
            return refuse(IMPOSSIBLE);
        }
        return answer(now.log.countOf(what));
    }

    public int page(int page, int what) {
        if (what < 0 || what > 4) {
            return refuse(IMPOSSIBLE);
        }
        if (!isPage(page)) {
            return refuse(UNKNOWN);
        }
        switch (what) {
            case 0: return answer(now.pages.lengthOf(page));
            case 1: return answer(now.pages.freeOf(page));
            case 2: return answer(now.deadUnitsOf(page));
            case 3: return answer(now.pages.unusedOf(page));
            default: return answer(now.pages.isClear(page) ? 1 : 0);
        }
    }

    public int slot(int page, int slot, int what) {
        if (what < 0 || what > 3) {
            return refuse(IMPOSSIBLE);
        }
        if (!now.pages.hasSlot(page, slot)) {
            return refuse(UNKNOWN);
        }
        int place = page * SLOTS + slot;
        switch (what) {
            case 0: return answer(now.pages.at(place).kind);
            case 1: return answer(slotOf(now.pages.at(place).turned));
            case 2: return answer(now.index.howManyLeadTo(place));
            default: return answer(now.chainLength(place));
        }
    }

    public int version(int page, int slot, int what) {
        if (what < 0 || what > 11) {
            return refuse(IMPOSSIBLE);
        }
        if (!now.pages.hasSlot(page, slot)) {
            return refuse(UNKNOWN);
        }
        Slot version = now.pages.at(page * SLOTS + slot);
        if (version.kind != FULL) {
            return refuse(MISSING);
        }
        return answer(what < 8 ? version.stamp(what) : now.isSuch(version, what) ? 1 : 0);
    }

    public int entry(int i, int what) {
        if (i < 0 || what < 0 || what > 3) {
            return refuse(IMPOSSIBLE);
        }
        if (i >= now.index.length) {
            return refuse(MISSING);
        }
        switch (what) {
            case 0: return answer(now.index.keyAt(i));
            case 1: return answer(pageOf(now.index.placeAt(i)));
            case 2: return answer(slotOf(now.index.placeAt(i)));
            default: return answer(now.index.isKilled(i) ? 1 : 0);
        }
    }

    public int txn(int txn, int what) {
        if (what < 0 || what > 3) {
            return refuse(IMPOSSIBLE);
        }
        if (!now.txns.has(txn)) {
            return refuse(UNKNOWN);
        }
        int state = now.txns.stateOf(txn);
        if (what == 1 && state != OPEN) {
            return refuse(MISSING);
        }
        switch (what) {
            case 0: return answer(state);
            case 1: return answer(now.txns.lowOf(txn));
            case 2: return answer(now.txns.howManyNoted(txn));
            default: return answer(now.txns.waitsFor(txn));
        }
    }

    public int knows(int txn, int other) {
        if (!now.txns.has(txn) || !now.txns.has(other)) {
            return refuse(UNKNOWN);
        }
        return answer(now.txns.isKnown(txn, other) ? 1 : 0);
    }

    public int sees(int txn, int row, int what) {
        if (what < 0 || what > 3) {
            return refuse(IMPOSSIBLE);
        }
        if (!now.txns.has(txn) || !now.hasRow(row)) {
            return refuse(UNKNOWN);
        }
        int place = now.seenPlace(txn, row);
        if (place == NONE) {
            return refuse(UNSEEN);
        }
        switch (what) {
            case 0: return answer(pageOf(place));
            case 1: return answer(slotOf(place));
            case 2: return answer(now.pages.at(place).key);
            default: return answer(now.pages.at(place).value);
        }
    }

    public int versions(int row) {
        return now.hasRow(row) ? answer(now.versionsOf(row)) : refuse(UNKNOWN);
    }

    public int trail(int row, int i, int what) {
        if (i < 0 || what < 0 || what > 1) {
            return refuse(IMPOSSIBLE);
        }
        if (!now.hasRow(row)) {
            return refuse(UNKNOWN);
        }
        int place = now.placeMade(row, i);
        if (place == NONE) {
            return refuse(MISSING);
        }
        return answer(what == 0 ? pageOf(place) : slotOf(place));
    }

    public int event(int i, int what) {
        if (i < 0 || i >= EVENTS || what < 0 || what > 1) {
            return refuse(IMPOSSIBLE);
        }
        if (i >= now.log.length) {
            return refuse(MISSING);
        }
        return answer(what == 0 ? now.log.kindAt(i) : now.log.numberAt(i));
    }

    // ---- what is done

    public int begin() {
        if (now.txns.next > TXNS) {
            return refuse(TOO_MANY);
        }
        return answer(now.txns.open());
    }

    public int commit(int txn) {
        int why = asFree(txn);
        if (why != OK) {
            return refuse(why);
        }
        now.txns.end(txn, DONE);
        now.log.tell(TXN_DONE, txn);
        return answer(now.txns.horizon);
    }

    public int abort(int txn) {
        int why = asOpen(txn);
        if (why != OK) {
            return refuse(why);
        }
        now.txns.end(txn, GONE);
        now.log.tell(TXN_GONE, txn);
        return answer(now.txns.horizon);
    }

    public int insert(int txn, int key, int value, int size) {
        if (!isVersion(key, value, size)) {
            return refuse(IMPOSSIBLE);
        }
        if (!now.txns.has(txn)) {
            return refuse(UNKNOWN);
        }
        if (now.rows >= ROWS || now.index.length >= ENTRIES) {
            return refuse(TOO_MANY);
        }
        int why = asFree(txn);
        if (why != OK) {
            return refuse(why);
        }
        int place = now.pages.firstPlace(size);
        if (place == NONE) {
            return refuse(MISSING);
        }
        return answer(now.addRow(place, key, value, size, txn));
    }

    public int update(int txn, int row, int key, int value, int size) {
        if (!isVersion(key, value, size)) {
            return refuse(IMPOSSIBLE);
        }
        int why = asChanger(txn, row);
        if (why != OK) {
            return refuse(why);
        }
        // A page may be pruned on the way to a refusal, which must change nothing.
        spare.copyFrom(now);
        int old = now.seenPlace(txn, row);
        int place = now.placeBehind(old, size);
        boolean light = pageOf(place) == pageOf(old) && now.pages.at(old).key == key;
        if (place == NONE || (!light && now.index.length >= ENTRIES)) {
            now.copyFrom(spare);
            return refuse(place == NONE ? MISSING : TOO_MANY);
        }
        now.addVersion(place, row, key, value, size, txn, light);
        now.endVersion(old, txn, place);
        return answer(light ? 1 : 0);
    }

    public int delete(int txn, int row) {
        int why = asChanger(txn, row);
        if (why != OK) {
            return refuse(why);
        }
        now.endVersion(now.seenPlace(txn, row), txn, NONE);
        return answer(now.versionsOf(row));
    }

    public int await(int txn, int row) {
        int why = asReader(txn, row);
        if (why != OK) {
            return refuse(why);
        }
        int ender = openEnder(txn, row);
        if (ender == NONE) {
            return refuse(MISSING);
        }
        if (now.txns.ringLength(txn, ender) > 0) {
            return refuse(RINGED);
        }
        now.txns.letWait(txn, ender);
        return answer(ender);
    }

    public int prune(int page) {
        return isPage(page) ? answer(now.prunePage(page)) : refuse(UNKNOWN);
    }

    public int vacuum() {
        return answer(now.vacuumAll());
    }

    public int look(int txn, int key) {
        if (!isWithin(key, 0, MOST_KEY)) {
            return refuse(IMPOSSIBLE);
        }
        int why = asFree(txn);
        if (why != OK) {
            return refuse(why);
        }
        return answer(now.lookFor(txn, key));
    }

    public int found(int i, int what) {
        if (i < 0 || what < 0 || what > 4) {
            return refuse(IMPOSSIBLE);
        }
        if (i >= now.found.length) {
            return refuse(MISSING);
        }
        return answer(now.found.told(i, what));
    }

    public int repack() {
        if (now.txns.howManyOpen() > 0) {
            return refuse(STILL_OPEN);
        }
        spare.copyFrom(now);
        if (!now.layAnew(spare)) {
            now.copyFrom(spare);
            return refuse(MISSING);
        }
        return answer(now.pages.howManyHaveSlots());
    }

    public int set(int what, int much) {
        if (what == 0 && isWithin(much, 1, MOST_BATCH)) {
            int was = now.batch;
            now.batch = much;
            return answer(was);
        }
        if (what == 1 && isWithin(much, 0, MOST_AGE)) {
            int was = now.age;
            now.age = much;
            return answer(was);
        }
        return refuse(IMPOSSIBLE);
    }

    public int mark() {
        if (marked < 0 || marked >= marks.length || marks[marked] == null) {
            return refuse(TOO_MANY);
        }
        marks[marked].copyFrom(now);
        marked++;
        return answer(marked);
    }

    public int back() {
        int latest = marked - 1;
        if (latest < 0 || latest >= marks.length || marks[latest] == null) {
            return refuse(MISSING);
        }
        now.copyFrom(marks[latest]);
        marked = latest;
        return answer(marked);
    }

    // ---- ON PAPER

    public int without(int txn) {
        int why = asOpen(txn);
        return why == OK ? answer(now.txns.horizonBut(txn)) : refuse(why);
    }

    public int ring(int txn, int row) {
        int why = asReader(txn, row);
        if (why != OK) {
            return refuse(why);
        }
        int ender = openEnder(txn, row);
        return ender == NONE ? refuse(MISSING) : answer(now.txns.ringLength(txn, ender));
    }

    public int blocks(int txn) {
        int why = asOpen(txn);
        return why == OK ? answer(now.txns.howManyWaitFor(txn)) : refuse(why);
    }

    public int holder() {
        int first = now.txns.firstAtHorizon();
        return first == NONE ? refuse(MISSING) : answer(first);
    }

    public int holds(int txn) {
        int why = asOpen(txn);
        if (why != OK) {
            return refuse(why);
        }
        spare.copyFrom(now);
        spare.txns.end(txn, DONE);
        return answer(spare.deadUnits() - now.deadUnits());
    }

    public int gains(int what) {
        if (what < 0 || what > 5) {
            return refuse(IMPOSSIBLE);
        }
        spare.copyFrom(now);
        int stubs = spare.vacuumAll();
        switch (what) {
            case 0: return answer(spare.pages.freeInAll() - now.pages.freeInAll());
            case 1: return answer(countGained(VERSIONS_GONE));
            case 2: return answer(stubs);
            case 3: return answer(countGained(PASSES));
            case 4: return answer(countGained(ENTRIES_GONE));
            default: return answer(countGained(FROZEN_COUNT));
        }
    }

    public int best() {
        spare.copyFrom(now);
        int best = NONE;
        int most = 0;
        for (int page = 0; page < PAGES; page++) {
            spare.prunePage(page);
            int gain = spare.pages.freeOf(page) - now.pages.freeOf(page);
            if (gain > most) {
                most = gain;
                best = page;
            }
        }
        return best == NONE ? refuse(MISSING) : answer(best);
    }

    public int reads(int txn, int key) {
        if (!isWithin(key, 0, MOST_KEY)) {
            return refuse(IMPOSSIBLE);
        }
        int why = asOpen(txn);
        return why == OK ? answer(now.readsFor(key)) : refuse(why);
    }

    public int most(int page) {
        if (!isPage(page)) {
            return refuse(UNKNOWN);
        }
        spare.copyFrom(now);
        spare.txns.endAll();
        spare.vacuumAll();
        return answer(spare.pages.freeOf(page));
    }

    // ---- what the calls share

    private int answer(int value) {
        status = OK;
        return value;
    }

    private int refuse(int why) {
        status = why;
        return NONE;
    }

    private int asOpen(int txn) {
        if (!now.txns.has(txn)) {
            return UNKNOWN;
        }
        return now.txns.stateOf(txn) == OPEN ? OK : NOT_OPEN;
    }

    private int asFree(int txn) {
        int why = asOpen(txn);
        return why == OK && now.txns.waitsFor(txn) != NONE ? WAITING : why;
    }

    private int asReader(int txn, int row) {
        if (!now.hasRow(row)) {
            return UNKNOWN;
        }
        int why = asFree(txn);
        if (why != OK) {
            return why;
        }
        return now.seenPlace(txn, row) == NONE ? UNSEEN : OK;
    }

    private int asChanger(int txn, int row) {
        int why = asReader(txn, row);
        if (why != OK) {
            return why;
        }
        int ender = now.pages.at(now.seenPlace(txn, row)).ender;
        switch (now.txns.stateOf(ender)) {
            case OPEN: return BEING_ENDED;
            case DONE: return ENDED;
            default: return OK;
        }
    }

    /** What holds up a reader of a row: the open ender of the version that it sees. */
    private int openEnder(int txn, int row) {
        int ender = now.pages.at(now.seenPlace(txn, row)).ender;
        return ender != txn && now.txns.stateOf(ender) == OPEN ? ender : NONE;
    }

    private int countGained(int which) {
        return spare.log.countOf(which) - now.log.countOf(which);
    }

    /** Does what the line says that was read last; a refusal is the text's fault. */
    private void perform() {
        int a = text.told(0);
        int b = text.told(1);
        int c = text.told(2);
        int d = text.told(3);
        status = OK;
        switch (text.word) {
            case UNITS_WORD: now.pages.units = a; break;
            case BATCH_WORD: now.batch = a; break;
            case AGE_WORD: now.age = a; break;
            case ROW_WORD: addFirstRow(a, b, c); break;
            case BEGIN_WORD: begin(); break;
            case INSERT_WORD: insert(a, b, c, d); break;
            case UPDATE_WORD: update(a, b, c, d, text.told(4)); break;
            case DELETE_WORD: delete(a, b); break;
            case COMMIT_WORD: commit(a); break;
            case ABORT_WORD: abort(a); break;
            case PRUNE_WORD: prune(a); break;
            case VACUUM_WORD: vacuum(); break;
            case LOOK_WORD: look(a, b); break;
            case REPACK_WORD: repack(); break;
            default: break;
        }
        if (status != OK) {
            text.blame(text.word == ROW_WORD ? ROW_REFUSED : ACT_REFUSED, text.wordPlace);
        }
    }

    private void addFirstRow(int key, int value, int size) {
        int place = now.pages.firstPlace(size);
        if (now.rows >= ROWS || place == NONE) {
            refuse(TOO_MANY);
        } else {
            now.addRow(place, key, value, size, 1);
        }
    }

    private static boolean isWithin(int number, int least, int most) {
        return number >= least && number <= most;
    }

    private static boolean isPage(int page) {
        return page >= 0 && page < PAGES;
    }

    private static boolean isVersion(int key, int value, int size) {
        return isWithin(key, 0, MOST_KEY) && isWithin(value, 0, MOST_VALUE) && isWithin(size, 1, MOST_SIZE);
    }

    private static int pageOf(int place) {
        return place < 0 ? NONE : place / SLOTS;
    }

    private static int slotOf(int place) {
        return place < 0 ? NONE : place % SLOTS;
    }

    private static int pick(int[] numbers, int i) {
        return i >= 0 && i < numbers.length ? numbers[i] : NONE;
    }

    private static void put(int[] numbers, int i, int number) {
        if (i >= 0 && i < numbers.length) {
            numbers[i] = number;
        }
    }

    private static void copy(int[] from, int[] to) {
        System.arraycopy(from, 0, to, 0, Math.min(from.length, to.length));
    }

    /** One slot of a page, with the version that it may have. */
    private static final class Slot {
        int kind;
        int turned;
        int row;
        int key;
        int value;
        int size;
        int maker;
        int ender;
        int next;
        int made;
        boolean light;
        boolean frozen;

        Slot() {
            empty(UNUSED);
        }

        void empty(int kindThen) {
            kind = kindThen;
            turned = NONE;
            row = NONE;
            key = NONE;
            value = NONE;
            size = 0;
            maker = NONE;
            ender = NONE;
            next = NONE;
            made = NONE;
            light = false;
            frozen = false;
        }

        void copyFrom(Slot other) {
            kind = other.kind;
            turned = other.turned;
            row = other.row;
            key = other.key;
            value = other.value;
            size = other.size;
            maker = other.maker;
            ender = other.ender;
            next = other.next;
            made = other.made;
            light = other.light;
            frozen = other.frozen;
        }

        boolean isOf(int wanted) {
            return kind == FULL && row == wanted;
        }

        int stamp(int what) {
            switch (what) {
                case 0: return row;
                case 1: return key;
                case 2: return value;
                case 3: return size;
                case 4: return maker;
                case 5: return ender;
                case 6: return pageOf(next);
                default: return slotOf(next);
            }
        }
    }

    /** The pages and their slots. */
    private static final class Pages {
        final Slot[] slots = new Slot[PLACES];
        /** Stands for a slot where there is none; nothing is ever put there. */
        final Slot nowhere = new Slot();
        final int[] lengths = new int[PAGES];
        final int[] clear = new int[PAGES];
        int units = UNITS_WITHOUT;

        Pages() {
            for (int i = 0; i < slots.length; i++) {
                slots[i] = new Slot();
            }
        }

        void copyFrom(Pages other) {
            for (int place = 0; place < PLACES; place++) {
                at(place).copyFrom(other.at(place));
            }
            copy(other.lengths, lengths);
            copy(other.clear, clear);
            units = other.units;
        }

        void strip() {
            for (int place = 0; place < PLACES; place++) {
                at(place).empty(UNUSED);
            }
            for (int page = 0; page < PAGES; page++) {
                put(lengths, page, 0);
                put(clear, page, 0);
            }
        }

        Slot at(int place) {
            if (place < 0 || place >= slots.length || slots[place] == null) {
                return nowhere;
            }
            return slots[place];
        }

        int lengthOf(int page) {
            return pick(lengths, page);
        }

        boolean hasSlot(int page, int slot) {
            return isPage(page) && slot >= 0 && slot < lengthOf(page);
        }

        boolean isClear(int page) {
            return pick(clear, page) == 1;
        }

        void setClear(int page, boolean such) {
            put(clear, page, such ? 1 : 0);
        }

        int freeOf(int page) {
            int free = units;
            for (int slot = 0; slot < SLOTS; slot++) {
                free -= at(page * SLOTS + slot).size;
            }
            return free;
        }

        int freeInAll() {
            int free = 0;
            for (int page = 0; page < PAGES; page++) {
                free += freeOf(page);
            }
            return free;
        }

        int unusedOf(int page) {
            int many = 0;
            for (int slot = 0; slot < lengthOf(page); slot++) {
                if (at(page * SLOTS + slot).kind == UNUSED) {
                    many++;
                }
            }
            return many;
        }

        int slotsThatAre(int kind) {
            int many = 0;
            for (int place = 0; place < PLACES; place++) {
                if (at(place).kind == kind) {
                    many++;
                }
            }
            return many;
        }

        int howManyHaveSlots() {
            int many = 0;
            for (int page = 0; page < PAGES; page++) {
                if (lengthOf(page) > 0) {
                    many++;
                }
            }
            return many;
        }

        int placeIn(int page, int size) {
            if (freeOf(page) < size) {
                return NONE;
            }
            int length = lengthOf(page);
            for (int slot = 0; slot < length; slot++) {
                if (at(page * SLOTS + slot).kind == UNUSED) {
                    return page * SLOTS + slot;
                }
            }
            return length < SLOTS ? page * SLOTS + length : NONE;
        }

        int firstPlace(int size) {
            for (int page = 0; page < PAGES; page++) {
                int place = placeIn(page, size);
                if (place != NONE) {
                    return place;
                }
            }
            return NONE;
        }

        /** Makes a slot full; true if it was there, unused. */
        boolean take(int place) {
            int page = pageOf(place);
            boolean again = slotOf(place) < lengthOf(page);
            if (!again) {
                put(lengths, page, slotOf(place) + 1);
            }
            at(place).empty(FULL);
            setClear(page, false);
            return again;
        }

        void dropUnusedBehind(int page) {
            for (int slot = SLOTS - 1; slot >= 0; slot--) {
                if (slot >= lengthOf(page)) {
                    continue;
                }
                if (at(page * SLOTS + slot).kind != UNUSED) {
                    return;
                }
                put(lengths, page, slot);
            }
        }
    }

    /** The transactions, by their numbers. */
    private static final class Txns {
        final int[] states = new int[TXNS + 1];
        final int[] lows = new int[TXNS + 1];
        final int[] waits = new int[TXNS + 1];
        /** A bit for each one that was open as this one began. */
        final long[] noted = new long[TXNS + 1];
        int next;
        int horizon;

        Txns() {
            makeAnew();
        }

        void makeAnew() {
            for (int t = 0; t <= TXNS; t++) {
                put(states, t, DONE);
                put(lows, t, t);
                put(waits, t, NONE);
                setNoted(t, 0L);
            }
            next = 2;
            horizon = 2;
        }

        void copyFrom(Txns other) {
            copy(other.states, states);
            copy(other.lows, lows);
            copy(other.waits, waits);
            System.arraycopy(other.noted, 0, noted, 0, Math.min(other.noted.length, noted.length));
            next = other.next;
            horizon = other.horizon;
        }

        boolean has(int t) {
            return t >= 1 && t < next;
        }

        int stateOf(int t) {
            return t >= 1 && t < next && t < states.length ? states[t] : NONE;
        }

        int lowOf(int t) {
            return pick(lows, t);
        }

        int waitsFor(int t) {
            return pick(waits, t);
        }

        int howManyNoted(int t) {
            return t >= 0 && t < noted.length ? Long.bitCount(noted[t]) : 0;
        }

        private void setNoted(int t, long bits) {
            if (t >= 0 && t < noted.length) {
                noted[t] = bits;
            }
        }

        boolean isKnown(int t, int other) {
            if (t == other) {
                return true;
            }
            if (other < 1 || other >= t || t >= noted.length || other >= states.length) {
                return false;
            }
            return states[other] == DONE && (noted[t] >> other & 1L) == 0L;
        }

        int open() {
            int t = next;
            long bits = 0L;
            int low = t;
            for (int other = t - 1; other >= 1; other--) {
                if (stateOf(other) == OPEN) {
                    bits |= 1L << other;
                    low = other;
                }
            }
            next++;
            put(states, t, OPEN);
            put(lows, t, low);
            put(waits, t, NONE);
            setNoted(t, bits);
            horizon = horizonBut(NONE);
            return t;
        }

        void end(int t, int state) {
            put(states, t, state);
            put(waits, t, NONE);
            for (int other = 1; other < next; other++) {
                if (waitsFor(other) == t) {
                    put(waits, other, NONE);
                }
            }
            horizon = horizonBut(NONE);
        }

        void endAll() {
            for (int t = 1; t < next; t++) {
                if (stateOf(t) == OPEN) {
                    end(t, DONE);
                }
            }
        }

        int horizonBut(int t) {
            int least = next;
            for (int other = 1; other < next; other++) {
                if (other != t && stateOf(other) == OPEN) {
                    least = Math.min(least, lowOf(other));
                }
            }
            return least;
        }

        int firstAtHorizon() {
            for (int t = 1; t < next; t++) {
                if (stateOf(t) == OPEN && lowOf(t) == horizon) {
                    return t;
                }
            }
            return NONE;
        }

        int howManyOpen() {
            int many = 0;
            for (int t = 1; t < next; t++) {
                if (stateOf(t) == OPEN) {
                    many++;
                }
            }
            return many;
        }

        int howManyWait() {
            int many = 0;
            for (int t = 1; t < next; t++) {
                if (waitsFor(t) != NONE) {
                    many++;
                }
            }
            return many;
        }

        void letWait(int t, int other) {
            put(waits, t, other);
        }

        /** How many would be in the ring if t waited for the other one; 0 without a ring. */
        int ringLength(int t, int other) {
            int at = other;
            int length = 1;
            for (int i = 0; i < TXNS && at != NONE && at != t; i++) {
                at = waitsFor(at);
                length++;
            }
            return at == t ? length : 0;
        }

        int howManyWaitFor(int t) {
            int many = 0;
            for (int other = 1; other < next; other++) {
                if (other != t && ringLength(t, other) > 0) {
                    many++;
                }
            }
            return many;
        }
    }

    /** The entries of the index, by keys, of like ones by places. */
    private static final class Index {
        final int[] keys = new int[ENTRIES];
        final int[] places = new int[ENTRIES];
        final int[] killed = new int[ENTRIES];
        int length;

        void copyFrom(Index other) {
            copy(other.keys, keys);
            copy(other.places, places);
            copy(other.killed, killed);
            length = other.length;
        }

        int keyAt(int i) {
            return pick(keys, i);
        }

        int placeAt(int i) {
            return pick(places, i);
        }

        boolean isKilled(int i) {
            return pick(killed, i) == 1;
        }

        void kill(int i) {
            put(killed, i, 1);
        }

        private void move(int from, int to) {
            put(keys, to, pick(keys, from));
            put(places, to, pick(places, from));
            put(killed, to, pick(killed, from));
        }

        private boolean isBehind(int i, int key, int place) {
            int other = pick(keys, i);
            return other > key || (other == key && pick(places, i) > place);
        }

        void add(int key, int place) {
            if (length >= ENTRIES) {
                return;
            }
            int i = length;
            for (; i > 0 && isBehind(i - 1, key, place); i--) {
                move(i - 1, i);
            }
            put(keys, i, key);
            put(places, i, place);
            put(killed, i, 0);
            length++;
        }

        /** Lets all entries go that lead to a slot; how many. */
        int dropAllTo(int place) {
            int kept = 0;
            for (int i = 0; i < length; i++) {
                if (placeAt(i) != place) {
                    move(i, kept);
                    kept++;
                }
            }
            int gone = length - kept;
            length = kept;
            return gone;
        }

        int howManyLeadTo(int place) {
            int many = 0;
            for (int i = 0; i < length; i++) {
                if (placeAt(i) == place) {
                    many++;
                }
            }
            return many;
        }
    }

    /** The latest events, the latest first, and what is counted. */
    private static final class Log {
        final int[] kinds = new int[EVENTS];
        final int[] numbers = new int[EVENTS];
        final int[] counted = new int[COUNTS];
        int length;

        void copyFrom(Log other) {
            copy(other.kinds, kinds);
            copy(other.numbers, numbers);
            copy(other.counted, counted);
            length = other.length;
        }

        void makeAnew() {
            for (int i = 0; i < counted.length; i++) {
                counted[i] = 0;
            }
            length = 0;
        }

        void tell(int kind, int number) {
            for (int i = EVENTS - 1; i > 0; i--) {
                put(kinds, i, pick(kinds, i - 1));
                put(numbers, i, pick(numbers, i - 1));
            }
            put(kinds, 0, kind);
            put(numbers, 0, number);
            length = Math.min(length + 1, EVENTS);
        }

        int kindAt(int i) {
            return pick(kinds, i);
        }

        int numberAt(int i) {
            return pick(numbers, i);
        }

        void count(int what, int more) {
            put(counted, what, pick(counted, what) + more);
        }

        int countOf(int what) {
            return pick(counted, what);
        }
    }

    /** What the latest look found, as it was then. */
    private static final class Found {
        final int[] rows = new int[ENTRIES];
        final int[] values = new int[ENTRIES];
        final int[] places = new int[ENTRIES];
        final int[] aheads = new int[ENTRIES];
        int length;

        void copyFrom(Found other) {
            copy(other.rows, rows);
            copy(other.values, values);
            copy(other.places, places);
            copy(other.aheads, aheads);
            length = other.length;
        }

        void add(int row, int value, int place, int ahead) {
            put(rows, length, row);
            put(values, length, value);
            put(places, length, place);
            put(aheads, length, ahead);
            length = Math.min(length + 1, ENTRIES);
        }

        int told(int i, int what) {
            switch (what) {
                case 0: return pick(rows, i);
                case 1: return pick(values, i);
                case 2: return pageOf(pick(places, i));
                case 3: return slotOf(pick(places, i));
                default: return pick(aheads, i);
            }
        }
    }

    /** All that a mark keeps. */
    private static final class Store {
        final Pages pages = new Pages();
        final Txns txns = new Txns();
        final Index index = new Index();
        final Log log = new Log();
        final Found found = new Found();
        int batch = BATCH_WITHOUT;
        int age = AGE_WITHOUT;
        int rows;
        int made;

        void copyFrom(Store other) {
            pages.copyFrom(other.pages);
            txns.copyFrom(other.txns);
            index.copyFrom(other.index);
            log.copyFrom(other.log);
            found.copyFrom(other.found);
            batch = other.batch;
            age = other.age;
            rows = other.rows;
            made = other.made;
        }

        void makeAnew() {
            pages.strip();
            pages.units = UNITS_WITHOUT;
            txns.makeAnew();
            index.length = 0;
            log.makeAnew();
            found.length = 0;
            batch = BATCH_WITHOUT;
            age = AGE_WITHOUT;
            rows = 0;
            made = 0;
        }

        boolean hasRow(int row) {
            return row >= 0 && row < rows;
        }

        boolean isDead(Slot version) {
            if (version.kind != FULL) {
                return false;
            }
            if (!version.frozen && txns.stateOf(version.maker) == GONE) {
                return true;
            }
            return version.ender < txns.horizon && txns.stateOf(version.ender) == DONE;
        }

        private boolean isDying(Slot version) {
            return txns.stateOf(version.ender) == DONE && !isDead(version);
        }

        /** Whether a version is what many() and version() name by a number. */
        boolean isSuch(Slot version, int what) {
            switch (what) {
                case 8: return version.light;
                case 9: return version.frozen;
                case 10: return isDead(version);
                default: return isDying(version);
            }
        }

        int versionsThatAre(int what) {
            int many = 0;
            for (int place = 0; place < PLACES; place++) {
                Slot version = pages.at(place);
                if (version.kind == FULL && isCounted(version, what)) {
                    many++;
                }
            }
            return many;
        }

        private boolean isCounted(Slot version, int what) {
            switch (what) {
                case 7: return true;
                case 8: return isDead(version);
                case 9: return isDying(version);
                case 10: return version.frozen;
                default: return version.light;
            }
        }

        int versionsOf(int row) {
            int many = 0;
            for (int place = 0; place < PLACES; place++) {
                if (pages.at(place).isOf(row)) {
                    many++;
                }
            }
            return many;
        }

        int placeMade(int row, int i) {
            for (int place = 0; place < PLACES; place++) {
                if (pages.at(place).isOf(row) && madeAhead(row, pages.at(place).made) == i) {
                    return place;
                }
            }
            return NONE;
        }

        private int madeAhead(int row, int when) {
            int many = 0;
            for (int place = 0; place < PLACES; place++) {
                if (pages.at(place).isOf(row) && pages.at(place).made < when) {
                    many++;
                }
            }
            return many;
        }

        int deadUnitsOf(int page) {
            int dead = 0;
            for (int slot = 0; slot < SLOTS; slot++) {
                Slot version = pages.at(page * SLOTS + slot);
                if (isDead(version)) {
                    dead += version.size;
                }
            }
            return dead;
        }

        int deadUnits() {
            int dead = 0;
            for (int page = 0; page < PAGES; page++) {
                dead += deadUnitsOf(page);
            }
            return dead;
        }

        boolean isSeen(int txn, Slot version) {
            if (!version.frozen && !txns.isKnown(txn, version.maker)) {
                return false;
            }
            return !txns.isKnown(txn, version.ender);
        }

        /** One that is gone may see two versions of a row: its own, too; the first place is told. */
        int seenPlace(int txn, int row) {
            for (int place = 0; place < PLACES; place++) {
                Slot version = pages.at(place);
                if (version.isOf(row) && isSeen(txn, version)) {
                    return place;
                }
            }
            return NONE;
        }

        int chainFirst(int place) {
            Slot slot = pages.at(place);
            return slot.kind == FULL ? place : slot.kind == TURNED ? slot.turned : NONE;
        }

        int chainNext(int place) {
            Slot version = pages.at(place);
            int next = version.next;
            int enderState = txns.stateOf(version.ender);
            if (enderState == NONE || enderState == GONE || pageOf(next) != pageOf(place)) {
                return NONE;
            }
            Slot follower = pages.at(next);
            boolean joined = follower.kind == FULL && follower.light && follower.maker == version.ender;
            return joined ? next : NONE;
        }

        int chainLength(int place) {
            int length = 0;
            int at = chainFirst(place);
            for (int i = 0; i < SLOTS && at != NONE; i++) {
                length++;
                at = chainNext(at);
            }
            return length;
        }

        int addRow(int place, int key, int value, int size, int maker) {
            int row = rows;
            rows++;
            addVersion(place, row, key, value, size, maker, false);
            return row;
        }

        void addVersion(int place, int row, int key, int value, int size, int maker, boolean light) {
            if (pages.take(place)) {
                log.count(SLOTS_AGAIN, 1);
            }
            Slot version = pages.at(place);
            version.row = row;
            version.key = key;
            version.value = value;
            version.size = size;
            version.maker = maker;
            version.light = light;
            version.made = made;
            made++;
            if (!light) {
                index.add(key, place);
            }
        }

        void endVersion(int place, int ender, int next) {
            Slot version = pages.at(place);
            version.ender = ender;
            version.next = next;
            pages.setClear(pageOf(place), false);
        }

        /** Where a new version comes behind an old one; prunes the old one's page if that lacks room. */
        int placeBehind(int old, int size) {
            int page = pageOf(old);
            int place = pages.placeIn(page, size);
            if (place != NONE) {
                return place;
            }
            prunePage(page);
            place = pages.placeIn(page, size);
            return place != NONE ? place : pages.firstPlace(size);
        }

        int prunePage(int page) {
            int went = 0;
            for (int slot = 0; slot < SLOTS; slot++) {
                went += pruneSlot(page * SLOTS + slot);
            }
            for (int slot = 0; slot < SLOTS; slot++) {
                Slot version = pages.at(page * SLOTS + slot);
                if (version.kind == FULL && version.light && txns.stateOf(version.maker) == GONE) {
                    version.empty(UNUSED);
                    went++;
                }
            }
            if (went > 0) {
                pages.setClear(page, false);
                log.count(PRUNINGS, 1);
                log.count(VERSIONS_GONE, went);
                log.tell(PAGE_PRUNED, page);
            }
            return went;
        }

        private int pruneSlot(int place) {
            Slot head = pages.at(place);
            if (head.kind == FULL && head.light) {
                return 0;
            }
            int at = chainFirst(place);
            int went = 0;
            for (int i = 0; i < SLOTS && at != NONE && isDead(pages.at(at)); i++) {
                int next = chainNext(at);
                pages.at(at).empty(UNUSED);
                at = next;
                went++;
            }
            if (went == 0) {
                return 0;
            }
            head.empty(at == NONE ? STUB : TURNED);
            head.turned = at;
            log.tell(at == NONE ? SLOT_STUB : SLOT_TURNED, place);
            return went;
        }

        int vacuumAll() {
            for (int page = 0; page < PAGES; page++) {
                prunePage(page);
            }
            int stubs = clearStubs();
            for (int page = 0; page < PAGES; page++) {
                pages.dropUnusedBehind(page);
            }
            freezeOld();
            for (int page = 0; page < PAGES; page++) {
                pages.setClear(page, isClearNow(page));
            }
            return stubs;
        }

        private int clearStubs() {
            int stubs = 0;
            int inBatch = 0;
            int gone = 0;
            for (int place = 0; place < PLACES; place++) {
                if (pages.at(place).kind != STUB) {
                    continue;
                }
                gone += index.dropAllTo(place);
                pages.at(place).empty(UNUSED);
                stubs++;
                inBatch++;
                if (inBatch >= batch) {
                    tellPass(gone);
                    inBatch = 0;
                    gone = 0;
                }
            }
            if (inBatch > 0) {
                tellPass(gone);
            }
            return stubs;
        }

        private void tellPass(int gone) {
            log.count(PASSES, 1);
            log.count(ENTRIES_GONE, gone);
            log.tell(PASS_MADE, gone);
        }

        private void freezeOld() {
            for (int place = 0; place < PLACES; place++) {
                Slot version = pages.at(place);
                if (version.kind != FULL || version.frozen || txns.stateOf(version.maker) != DONE) {
                    continue;
                }
                if (txns.horizon - version.maker > age) {
                    version.frozen = true;
                    log.count(FROZEN_COUNT, 1);
                    log.tell(VERSION_FROZEN, version.row);
                }
            }
        }

        private boolean isClearNow(int page) {
            for (int slot = 0; slot < SLOTS; slot++) {
                Slot at = pages.at(page * SLOTS + slot);
                if (at.kind != UNUSED && !(at.kind == FULL && isForAll(at))) {
                    return false;
                }
            }
            return true;
        }

        private boolean isForAll(Slot version) {
            boolean old = txns.stateOf(version.maker) == DONE && version.maker < txns.horizon;
            return (version.frozen || old) && isUnended(version);
        }

        private boolean isUnended(Slot version) {
            return version.ender == NONE || txns.stateOf(version.ender) == GONE;
        }

        int lookFor(int txn, int key) {
            found.length = 0;
            for (int i = 0; i < index.length; i++) {
                if (index.keyAt(i) != key || index.isKilled(i)) {
                    continue;
                }
                if (!pages.isClear(pageOf(index.placeAt(i)))) {
                    log.count(READS, 1);
                }
                goThrough(txn, key, i);
            }
            return found.length;
        }

        private void goThrough(int txn, int key, int entry) {
            int at = chainFirst(index.placeAt(entry));
            boolean lives = false;
            boolean met = false;
            for (int ahead = 0; ahead < SLOTS && at != NONE; ahead++) {
                Slot version = pages.at(at);
                lives = lives || !isDead(version);
                if (!met && isSeen(txn, version)) {
                    met = true;
                    if (version.key == key) {
                        found.add(version.row, version.value, at, ahead);
                    }
                }
                at = chainNext(at);
            }
            if (!lives) {
                index.kill(entry);
                log.count(KILLED_COUNT, 1);
                log.tell(ENTRY_KILLED, key);
            }
        }

        int readsFor(int key) {
            int many = 0;
            for (int i = 0; i < index.length; i++) {
                boolean gone = index.keyAt(i) != key || index.isKilled(i);
                if (!gone && !pages.isClear(pageOf(index.placeAt(i)))) {
                    many++;
                }
            }
            return many;
        }

        /** Lays all anew from a copy of what there is; false if there is no room. */
        boolean layAnew(Store old) {
            pages.strip();
            index.length = 0;
            int from = old.lastingBehind(NONE, NONE);
            for (int i = 0; i < PLACES && from != NONE; i++) {
                Slot version = old.pages.at(from);
                int place = pages.firstPlace(version.size);
                if (place == NONE) {
                    return false;
                }
                pages.take(place);
                layDown(version, place);
                from = old.lastingBehind(version.key, version.row);
            }
            return true;
        }

        private void layDown(Slot version, int place) {
            Slot slot = pages.at(place);
            slot.copyFrom(version);
            slot.light = false;
            slot.ender = NONE;
            slot.next = NONE;
            index.add(version.key, place);
        }

        /** Of the versions that stay as all is laid anew the next one by keys and rows. */
        private int lastingBehind(int key, int row) {
            int next = NONE;
            for (int place = 0; place < PLACES; place++) {
                Slot version = pages.at(place);
                if (version.kind != FULL || !isLasting(version) || !isAhead(key, row, version)) {
                    continue;
                }
                Slot least = pages.at(next);
                if (next == NONE || isAhead(version.key, version.row, least)) {
                    next = place;
                }
            }
            return next;
        }

        private boolean isLasting(Slot version) {
            return (version.frozen || txns.stateOf(version.maker) == DONE) && isUnended(version);
        }

        private boolean isAhead(int key, int row, Slot version) {
            return key < version.key || (key == version.key && row < version.row);
        }
    }

    /** The tape and the text on it: its tokens, its lines, its first fault. */
    private static final class Text {
        final int[] tape = new int[BYTES];
        int taped;
        int length;
        int at;
        int token;
        int tokenPlace;
        int number;
        int word;
        int wordPlace;
        final int[] numbers = new int[5];
        boolean lineOpen;
        int toldOnce;
        boolean rowsBegun;
        boolean actsBegun;
        boolean loaded;
        int fault;
        int faultPlace = NONE;

        boolean hasRoomFor(int more) {
            return taped + more <= BYTES;
        }

        void takeInt(int four) {
            for (int shift = 24; shift >= 0; shift -= 8) {
                put(tape, taped, four >> shift & 255);
                taped++;
            }
        }

        /** The first bytes are the text; the tape is empty then, though they still stand there. */
        void open(int bytes) {
            length = bytes;
            taped = 0;
            at = 0;
            lineOpen = false;
            toldOnce = 0;
            rowsBegun = false;
            actsBegun = false;
            loaded = true;
            fault = NO_FAULT;
            faultPlace = NONE;
        }

        void blame(int kind, int place) {
            fault = kind;
            faultPlace = place;
        }

        int told(int i) {
            return pick(numbers, i);
        }

        /**
         * Reads a line but for its ; sign, which is read ahead of the next line: a line is refused
         * behind its numbers, ahead of what follows them. False at the end and at a fault.
         */
        boolean readLine() {
            if (fault != NO_FAULT || (lineOpen && !readKind(SIGN))) {
                return false;
            }
            lineOpen = false;
            readToken();
            if (token == END) {
                return false;
            }
            if (!isGood(WORD)) {
                return false;
            }
            word = wordRead();
            wordPlace = tokenPlace;
            if (word == NONE) {
                blame(OUT_OF_PLACE, wordPlace);
                return false;
            }
            if (isTooLate()) {
                blame(TOO_LATE, wordPlace);
                return false;
            }
            noteWord();
            lineOpen = true;
            return readNumbers();
        }

        private boolean isTooLate() {
            if (word == ROW_WORD) {
                return actsBegun;
            }
            return word < ROW_WORD && (actsBegun || rowsBegun || (toldOnce >> word & 1) == 1);
        }

        private void noteWord() {
            if (word < ROW_WORD) {
                toldOnce |= 1 << word;
            } else if (word == ROW_WORD) {
                rowsBegun = true;
            } else {
                actsBegun = true;
            }
        }

        private boolean readNumbers() {
            for (int i = 0; i < numbersOf(word); i++) {
                if (!readKind(NUMBER)) {
                    return false;
                }
                if (!canBe(i)) {
                    blame(BAD_NUMBER, tokenPlace);
                    return false;
                }
                put(numbers, i, number);
            }
            return true;
        }

        private boolean canBe(int i) {
            switch (word) {
                case UNITS_WORD: return isWithin(number, LEAST_UNITS, MOST_UNITS);
                case BATCH_WORD: return isWithin(number, 1, MOST_BATCH);
                case AGE_WORD: return isWithin(number, 0, MOST_AGE);
                case ROW_WORD: return i == 0 ? isWithin(number, 0, MOST_KEY) : i == 1 || isWithin(number, 1, MOST_SIZE);
                default: return true;
            }
        }

        private boolean readKind(int wanted) {
            readToken();
            return isGood(wanted);
        }

        private boolean isGood(int wanted) {
            if (token == wanted) {
                return true;
            }
            blame(token == NOTHING ? NO_TOKEN : OUT_OF_PLACE, tokenPlace);
            return false;
        }

        private int byteAt(int i) {
            return i < length ? pick(tape, i) : NONE;
        }

        private void readToken() {
            while (at < length && (byteAt(at) == ' ' || byteAt(at) == '\n')) {
                at++;
            }
            tokenPlace = at;
            int first = byteAt(at);
            if (at >= length) {
                token = END;
            } else if (first == ';') {
                token = SIGN;
                at++;
            } else if (isWithin(first, 'a', 'z')) {
                token = WORD;
                passAll('a', 'z');
            } else if (isWithin(first, '0', '9')) {
                passAll('0', '9');
                token = at - tokenPlace > 3 ? NOTHING : NUMBER;
                number = numberRead();
            } else {
                token = NOTHING;
            }
        }

        private void passAll(int least, int most) {
            while (at < length && isWithin(byteAt(at), least, most)) {
                at++;
            }
        }

        private int numberRead() {
            int value = 0;
            for (int i = tokenPlace; i < at; i++) {
                value = value * 10 + byteAt(i) - '0';
            }
            return value;
        }

        private int wordRead() {
            for (int which = 0; which < WORDS; which++) {
                if (isSpelled(spelling(which))) {
                    return which;
                }
            }
            return NONE;
        }

        private boolean isSpelled(String name) {
            if (name.length() != at - tokenPlace) {
                return false;
            }
            for (int i = 0; i < name.length(); i++) {
                if (name.charAt(i) != byteAt(tokenPlace + i)) {
                    return false;
                }
            }
            return true;
        }

        private static int numbersOf(int which) {
            switch (which) {
                case ROW_WORD: return 3;
                case INSERT_WORD: return 4;
                case UPDATE_WORD: return 5;
                case DELETE_WORD:
                case LOOK_WORD: return 2;
                case BEGIN_WORD:
                case VACUUM_WORD:
                case REPACK_WORD: return 0;
                default: return 1;
            }
        }

        private static String spelling(int which) {
            switch (which) {
                case UNITS_WORD: return "units";
                case BATCH_WORD: return "batch";
                case AGE_WORD: return "age";
                case ROW_WORD: return "row";
                case BEGIN_WORD: return "begin";
                case INSERT_WORD: return "insert";
                case UPDATE_WORD: return "update";
                case DELETE_WORD: return "delete";
                case COMMIT_WORD: return "commit";
                case ABORT_WORD: return "abort";
                case PRUNE_WORD: return "prune";
                case VACUUM_WORD: return "vacuum";
                case LOOK_WORD: return "look";
                default: return "repack";
            }
        }
    }
}
