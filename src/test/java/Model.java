import java.util.ArrayList;
import java.util.Comparator;
import java.util.List;
import java.util.Set;
import java.util.TreeSet;
import java.util.function.Predicate;

/**
 * The document once more, written plainly with the library and without a thought for speed, so that
 * ModelTest can hold the program against a second reading. It shares no code with the program.
 */
final class Model {
    static final int NONE = -1;

    static final class Refused extends RuntimeException {
        private static final long serialVersionUID = 1L;
        final int why;

        Refused(int why) {
            super(null, null, false, false);
            this.why = why;
        }
    }

    static final class Version {
        int row, key, value, size, maker, ender = NONE, nextPage = NONE, nextSlot = NONE, made;
        boolean light, frozen;

        Version twin() {
            Version v = new Version();
            v.row = row; v.key = key; v.value = value; v.size = size; v.maker = maker; v.ender = ender;
            v.nextPage = nextPage; v.nextSlot = nextSlot; v.made = made; v.light = light; v.frozen = frozen;
            return v;
        }
    }

    static final class Slot {
        int kind;
        int turned = NONE;
        Version version;
    }

    static final class Entry {
        int key, page, slot;
        boolean killed;

        Entry(int key, int page, int slot, boolean killed) {
            this.key = key; this.page = page; this.slot = slot; this.killed = killed;
        }
    }

    static final class Txn {
        int state;
        int waits = NONE;
        Set<Integer> noted = new TreeSet<>();
    }

    static final class World {
        int units = 64, batch = 3, age = 5, rows, made;
        List<List<Slot>> pages = new ArrayList<>();
        boolean[] clear = new boolean[6];
        List<Txn> txns = new ArrayList<>();
        List<Entry> index = new ArrayList<>();
        List<int[]> events = new ArrayList<>();
        List<int[]> found = new ArrayList<>();
        int[] counts = new int[8];

        World() {
            for (int p = 0; p < 6; p++) pages.add(new ArrayList<>());
            Txn first = new Txn();
            first.state = 1;
            txns.add(first);
        }

        World twin() {
            World w = new World();
            w.units = units; w.batch = batch; w.age = age; w.rows = rows; w.made = made;
            w.pages.clear();
            for (List<Slot> page : pages) {
                List<Slot> copied = new ArrayList<>();
                for (Slot s : page) {
                    Slot t = new Slot();
                    t.kind = s.kind; t.turned = s.turned; t.version = s.version == null ? null : s.version.twin();
                    copied.add(t);
                }
                w.pages.add(copied);
            }
            w.clear = clear.clone();
            w.txns.clear();
            for (Txn t : txns) {
                Txn u = new Txn();
                u.state = t.state; u.waits = t.waits; u.noted.addAll(t.noted);
                w.txns.add(u);
            }
            for (Entry e : index) w.index.add(new Entry(e.key, e.page, e.slot, e.killed));
            for (int[] e : events) w.events.add(e.clone());
            for (int[] f : found) w.found.add(f.clone());
            w.counts = counts.clone();
            return w;
        }

        Txn txn(int t) { return txns.get(t - 1); }
        boolean hasTxn(int t) { return t >= 1 && t <= txns.size(); }
        int stateOf(int t) { return t == NONE ? NONE : txn(t).state; }

        boolean knows(int t, int other) {
            if (other == NONE) return false;
            return t == other || other < t && stateOf(other) == 1 && !txn(t).noted.contains(other);
        }

        int low(int t) {
            int least = t;
            for (int n : txn(t).noted) least = Math.min(least, n);
            return least;
        }

        int horizonBut(int leftOut) {
            int least = txns.size() + 1;
            for (int t = 1; t <= txns.size(); t++) if (t != leftOut && stateOf(t) == 0) least = Math.min(least, low(t));
            return least;
        }

        int horizon() { return horizonBut(NONE); }

        boolean dead(Version v) {
            return stateOf(v.maker) == 2 && !v.frozen || stateOf(v.ender) == 1 && v.ender < horizon();
        }

        boolean dying(Version v) { return stateOf(v.ender) == 1 && !dead(v); }
        boolean sees(int t, Version v) { return (v.frozen || knows(t, v.maker)) && !knows(t, v.ender); }
        boolean unended(Version v) { return v.ender == NONE || stateOf(v.ender) == 2; }

        List<int[]> versions(Predicate<Version> such) {
            List<int[]> all = new ArrayList<>();
            for (int p = 0; p < 6; p++)
                for (int s = 0; s < pages.get(p).size(); s++)
                    if (pages.get(p).get(s).kind == 1 && such.test(at(p, s).version)) all.add(new int[] {p, s});
            return all;
        }

        Slot at(int p, int s) { return pages.get(p).get(s); }

        int[] seen(int t, int row) {
            List<int[]> all = versions(v -> v.row == row && sees(t, v));
            return all.isEmpty() ? null : all.get(0);
        }

        int free(int p) {
            int free = units;
            for (Slot s : pages.get(p)) if (s.kind == 1) free -= s.version.size;
            return free;
        }

        int freeInAll() {
            int free = 0;
            for (int p = 0; p < 6; p++) free += free(p);
            return free;
        }

        int deadUnits(int p) {
            int dead = 0;
            for (Slot s : pages.get(p)) if (s.kind == 1 && dead(s.version)) dead += s.version.size;
            return dead;
        }

        int deadUnits() {
            int dead = 0;
            for (int p = 0; p < 6; p++) dead += deadUnits(p);
            return dead;
        }

        boolean place(int p, int size) {
            return free(p) >= size && (pages.get(p).size() < 10 || pages.get(p).stream().anyMatch(s -> s.kind == 0));
        }

        int firstPage(int size) {
            for (int p = 0; p < 6; p++) if (place(p, size)) return p;
            return NONE;
        }

        int put(int p, Version v) {
            List<Slot> page = pages.get(p);
            int s = 0;
            while (s < page.size() && page.get(s).kind != 0) s++;
            if (s < page.size()) counts[2]++; else page.add(new Slot());
            page.get(s).kind = 1;
            page.get(s).version = v;
            clear[p] = false;
            if (!v.light) addEntry(new Entry(v.key, p, s, false));
            return s;
        }

        void addEntry(Entry e) {
            index.add(e);
            index.sort(Comparator.comparingInt(x -> x.key * 10000 + x.page * 100 + x.slot));
        }

        int newRow(int p, int maker, int key, int value, int size) {
            Version v = new Version();
            v.row = rows++; v.maker = maker; v.key = key; v.value = value; v.size = size; v.made = made++;
            put(p, v);
            return v.row;
        }

        List<Integer> chain(int p, int s) {
            List<Integer> chain = new ArrayList<>();
            if (s >= pages.get(p).size()) return chain;
            Slot slot = at(p, s);
            int at = slot.kind == 1 ? s : slot.kind == 2 ? slot.turned : NONE;
            while (at != NONE) {
                chain.add(at);
                Version v = at(p, at).version;
                int next = NONE;
                if (v.ender != NONE && stateOf(v.ender) != 2 && v.nextPage == p && v.nextSlot < pages.get(p).size()) {
                    Slot n = at(p, v.nextSlot);
                    if (n.kind == 1 && n.version.light && n.version.maker == v.ender) next = v.nextSlot;
                }
                at = next;
            }
            return chain;
        }

        void clear(Slot s, int kind) { s.kind = kind; s.version = null; s.turned = NONE; }

        void tell(int kind, int number) {
            events.add(0, new int[] {kind, number});
            if (events.size() > 24) events.remove(24);
        }

        int prune(int p) {
            int went = 0;
            for (int s = 0; s < pages.get(p).size(); s++) {
                Slot slot = at(p, s);
                if (slot.kind != 2 && (slot.kind != 1 || slot.version.light)) continue;
                List<Integer> chain = chain(p, s);
                int first = 0;
                while (first < chain.size() && dead(at(p, chain.get(first)).version)) first++;
                if (first == 0) continue;
                for (int i = 0; i < first; i++) clear(at(p, chain.get(i)), 0);
                went += first;
                boolean none = first == chain.size();
                slot.kind = none ? 3 : 2;
                slot.turned = none ? NONE : chain.get(first);
                tell(none ? 1 : 2, 10 * p + s);
            }
            for (Slot slot : pages.get(p)) {
                if (slot.kind == 1 && slot.version.light && stateOf(slot.version.maker) == 2) {
                    clear(slot, 0);
                    went++;
                }
            }
            if (went > 0) {
                clear[p] = false;
                counts[0]++;
                counts[1] += went;
                tell(0, p);
            }
            return went;
        }

        int vacuum() {
            for (int p = 0; p < 6; p++) prune(p);
            List<int[]> stubs = new ArrayList<>();
            for (int p = 0; p < 6; p++)
                for (int s = 0; s < pages.get(p).size(); s++) if (at(p, s).kind == 3) stubs.add(new int[] {p, s});
            for (int from = 0; from < stubs.size(); from += batch) {
                List<int[]> pass = stubs.subList(from, Math.min(from + batch, stubs.size()));
                int was = index.size();
                index.removeIf(e -> pass.stream().anyMatch(x -> x[0] == e.page && x[1] == e.slot));
                for (int[] x : pass) clear(at(x[0], x[1]), 0);
                counts[3]++;
                counts[4] += was - index.size();
                tell(4, was - index.size());
            }
            for (List<Slot> page : pages)
                while (!page.isEmpty() && page.get(page.size() - 1).kind == 0) page.remove(page.size() - 1);
            for (int[] x : versions(v -> !v.frozen && stateOf(v.maker) == 1 && horizon() - v.maker > age)) {
                at(x[0], x[1]).version.frozen = true;
                counts[5]++;
                tell(5, at(x[0], x[1]).version.row);
            }
            for (int p = 0; p < 6; p++) {
                clear[p] = pages.get(p).stream().allMatch(s -> s.kind == 0 || s.kind == 1 && plain(s.version));
            }
            return stubs.size();
        }

        boolean plain(Version v) {
            return (v.frozen || stateOf(v.maker) == 1 && v.maker < horizon()) && unended(v);
        }

        int look(int t, int key) {
            found.clear();
            for (Entry e : index) {
                if (e.key != key || e.killed) continue;
                if (!clear[e.page]) counts[7]++;
                List<Integer> chain = chain(e.page, e.slot);
                for (int i = 0; i < chain.size(); i++) {
                    Version v = at(e.page, chain.get(i)).version;
                    if (!sees(t, v)) continue;
                    if (v.key == key) found.add(new int[] {v.row, v.value, e.page, chain.get(i), i});
                    break;
                }
                if (chain.stream().allMatch(s -> dead(at(e.page, s).version))) {
                    e.killed = true;
                    counts[6]++;
                    tell(3, key);
                }
            }
            return found.size();
        }

        void end(int t, int state) {
            txn(t).state = state;
            txn(t).waits = NONE;
            for (Txn u : txns) if (u.waits == t) u.waits = NONE;
        }

        int ring(int t, int other) {
            Set<Integer> met = new TreeSet<>();
            met.add(t);
            int at = other;
            while (at != NONE && at != t) {
                met.add(at);
                at = txn(at).waits;
            }
            return at == t ? met.size() : 0;
        }
    }

    World now = new World();
    List<World> marks = new ArrayList<>();
    List<Integer> tape = new ArrayList<>();
    int status;
    int fault = NONE;
    int faultPlace = NONE;

    void need(boolean such, int why) {
        if (!such) throw new Refused(why);
    }

    void needTxn(int t) { need(now.hasTxn(t), 2); }
    void needRow(int row) { need(row >= 0 && row < now.rows, 2); }
    void needOpen(int t) { need(now.stateOf(t) == 0, 4); }
    void needFree(int t) { needOpen(t); need(now.txn(t).waits == NONE, 11); }

    void needWhat(int what, int most) { need(what >= 0 && what <= most, 1); }

    void needVersion(int key, int value, int size) {
        need(key >= 0 && key <= 99 && value >= 0 && value <= 999 && size >= 1 && size <= 20, 1);
    }

    void needPage(int p) { need(p >= 0 && p <= 5, 2); }

    int[] needSeen(int t, int row) {
        needTxn(t);
        needRow(row);
        needFree(t);
        int[] at = now.seen(t, row);
        need(at != null, 6);
        return at;
    }

    int[] needChange(int t, int row) {
        int[] at = needSeen(t, row);
        int ender = now.at(at[0], at[1]).version.ender;
        need(ender == NONE || ender == t || now.stateOf(ender) != 0, 7);
        need(ender == NONE || ender == t || now.stateOf(ender) != 1, 8);
        return at;
    }

    int needEnder(int t, int row) {
        int[] at = needSeen(t, row);
        int ender = now.at(at[0], at[1]).version.ender;
        need(ender != NONE && ender != t && now.stateOf(ender) == 0, 5);
        return ender;
    }

    int feed(int... ints) {
        if (tape.size() + 20 > 700) return NONE;
        for (int i : ints) for (int b = 3; b >= 0; b--) tape.add((i >>> (8 * b)) & 255);
        return tape.size();
    }

    int fault(int what) { return what == 0 ? fault : what == 1 ? faultPlace : NONE; }

    static final Set<String> CHANGERS = Set.of("load", "begin", "commit", "abort", "insert", "update", "delete",
        "await", "prune", "vacuum", "look", "repack", "set", "mark", "back");

    /** A call by its name; status() tells how it went. */
    int call(String name, int... a) {
        World was = CHANGERS.contains(name) ? now.twin() : now;
        try {
            int value = answer(name, a);
            status = 0;
            return value;
        } catch (Refused r) {
            now = was;
            status = r.why;
            return NONE;
        }
    }

    int answer(String name, int... a) {
        switch (name) {
            case "load": return load(a[0]);
            case "many": return many(a[0]);
            case "counts": needWhat(a[0], 7); return now.counts[a[0]];
            case "page": return page(a[0], a[1]);
            case "slot": return slot(a[0], a[1], a[2]);
            case "version": return version(a[0], a[1], a[2]);
            case "entry": return entry(a[0], a[1]);
            case "txn": return txn(a[0], a[1]);
            case "knows": needTxn(a[0]); needTxn(a[1]); return now.knows(a[0], a[1]) ? 1 : 0;
            case "sees": return sees(a[0], a[1], a[2]);
            case "versions": needRow(a[0]); return now.versions(v -> v.row == a[0]).size();
            case "trail": return trail(a[0], a[1], a[2]);
            case "event":
                needWhat(a[0], 23);
                needWhat(a[1], 1);
                need(a[0] < now.events.size(), 5);
                return now.events.get(a[0])[a[1]];
            case "found":
                need(a[0] >= 0, 1);
                needWhat(a[1], 4);
                need(a[0] < now.found.size(), 5);
                return now.found.get(a[0])[a[1]];
            default: return done(name, a);
        }
    }

    int many(int what) {
        needWhat(what, 16);
        World w = now;
        switch (what) {
            case 0: return w.units;
            case 1: return w.batch;
            case 2: return w.age;
            case 3: return w.rows;
            case 4: return w.txns.size() + 1;
            case 5: return w.horizon();
            case 6: return w.index.size();
            case 7: return w.versions(v -> true).size();
            case 8: return w.versions(w::dead).size();
            case 9: return w.versions(w::dying).size();
            case 10: return w.versions(v -> v.frozen).size();
            case 11: return w.versions(v -> v.light).size();
            case 12: return (int) w.pages.stream().flatMap(List::stream).filter(s -> s.kind == 3).count();
            case 13: return (int) w.pages.stream().flatMap(List::stream).filter(s -> s.kind == 2).count();
            case 14: return marks.size();
            case 15: return (int) w.txns.stream().filter(t -> t.state == 0).count();
            default: return (int) w.txns.stream().filter(t -> t.waits != NONE).count();
        }
    }

    int page(int p, int what) {
        needWhat(what, 4);
        needPage(p);
        switch (what) {
            case 0: return now.pages.get(p).size();
            case 1: return now.free(p);
            case 2: return now.deadUnits(p);
            case 3: return (int) now.pages.get(p).stream().filter(s -> s.kind == 0).count();
            default: return now.clear[p] ? 1 : 0;
        }
    }

    void needSlot(int p, int s) {
        needPage(p);
        need(s >= 0 && s < now.pages.get(p).size(), 2);
    }

    int slot(int p, int s, int what) {
        needWhat(what, 3);
        needSlot(p, s);
        switch (what) {
            case 0: return now.at(p, s).kind;
            case 1: return now.at(p, s).kind == 2 ? now.at(p, s).turned : NONE;
            case 2: return (int) now.index.stream().filter(e -> e.page == p && e.slot == s).count();
            default: return now.chain(p, s).size();
        }
    }

    int version(int p, int s, int what) {
        needWhat(what, 11);
        needSlot(p, s);
        Version v = now.at(p, s).version;
        need(v != null, 5);
        int[] told = {v.row, v.key, v.value, v.size, v.maker, v.ender, v.nextPage, v.nextSlot,
            v.light ? 1 : 0, v.frozen ? 1 : 0, now.dead(v) ? 1 : 0, now.dying(v) ? 1 : 0};
        return told[what];
    }

    int entry(int i, int what) {
        need(i >= 0, 1);
        needWhat(what, 3);
        need(i < now.index.size(), 5);
        Entry e = now.index.get(i);
        return new int[] {e.key, e.page, e.slot, e.killed ? 1 : 0}[what];
    }

    int txn(int t, int what) {
        needWhat(what, 3);
        needTxn(t);
        switch (what) {
            case 0: return now.stateOf(t);
            case 1: need(now.stateOf(t) == 0, 5); return now.low(t);
            case 2: return now.txn(t).noted.size();
            default: return now.txn(t).waits;
        }
    }

    int sees(int t, int row, int what) {
        needWhat(what, 3);
        needTxn(t);
        needRow(row);
        int[] at = now.seen(t, row);
        need(at != null, 6);
        Version v = now.at(at[0], at[1]).version;
        return new int[] {at[0], at[1], v.key, v.value}[what];
    }

    int trail(int row, int i, int what) {
        need(i >= 0, 1);
        needWhat(what, 1);
        needRow(row);
        List<int[]> all = now.versions(v -> v.row == row);
        all.sort(Comparator.comparingInt(x -> now.at(x[0], x[1]).version.made));
        need(i < all.size(), 5);
        return all.get(i)[what];
    }

    int done(String name, int... a) {
        World w = now;
        switch (name) {
            case "begin": return begin();
            case "commit":
                needTxn(a[0]);
                needFree(a[0]);
                w.end(a[0], 1);
                w.tell(6, a[0]);
                return w.horizon();
            case "abort":
                needTxn(a[0]);
                needOpen(a[0]);
                w.end(a[0], 2);
                w.tell(7, a[0]);
                return w.horizon();
            case "insert": return insert(a[0], a[1], a[2], a[3]);
            case "update": return update(a[0], a[1], a[2], a[3], a[4]);
            case "delete": return delete(a[0], a[1]);
            case "await": {
                int ender = needEnder(a[0], a[1]);
                need(w.ring(a[0], ender) == 0, 12);
                w.txn(a[0]).waits = ender;
                return ender;
            }
            case "prune": needPage(a[0]); return w.prune(a[0]);
            case "vacuum": return w.vacuum();
            case "look":
                needWhat(a[1], 99);
                needTxn(a[0]);
                needFree(a[0]);
                return w.look(a[0], a[1]);
            case "repack": return repack();
            case "set": return set(a[0], a[1]);
            case "mark": need(marks.size() < 3, 3); marks.add(w.twin()); return marks.size();
            case "back": need(!marks.isEmpty(), 5); now = marks.remove(marks.size() - 1); return marks.size();
            default: return paper(name, a);
        }
    }

    int begin() {
        need(now.txns.size() < 60, 3);
        Txn t = new Txn();
        for (int o = 1; o <= now.txns.size(); o++) if (now.stateOf(o) == 0) t.noted.add(o);
        now.txns.add(t);
        return now.txns.size();
    }

    int insert(int t, int key, int value, int size) {
        needVersion(key, value, size);
        needTxn(t);
        need(now.rows < 40 && now.index.size() < 60, 3);
        needFree(t);
        int p = now.firstPage(size);
        need(p != NONE, 5);
        return now.newRow(p, t, key, value, size);
    }

    int update(int t, int row, int key, int value, int size) {
        needVersion(key, value, size);
        int[] old = needChange(t, row);
        int p = old[0];
        if (!now.place(p, size)) {
            now.prune(p);
            if (!now.place(p, size)) p = now.firstPage(size);
        }
        need(p != NONE, 5);
        Version o = now.at(old[0], old[1]).version;
        Version v = new Version();
        v.row = row; v.key = key; v.value = value; v.size = size; v.maker = t; v.made = now.made++;
        v.light = p == old[0] && key == o.key;
        need(v.light || now.index.size() < 60, 3);
        o.ender = t;
        o.nextPage = p;
        o.nextSlot = now.put(p, v);
        now.clear[old[0]] = false;
        return v.light ? 1 : 0;
    }

    int delete(int t, int row) {
        int[] at = needChange(t, row);
        Version v = now.at(at[0], at[1]).version;
        v.ender = t;
        v.nextPage = NONE;
        v.nextSlot = NONE;
        now.clear[at[0]] = false;
        return now.versions(x -> x.row == row).size();
    }

    int repack() {
        need(now.txns.stream().noneMatch(t -> t.state == 0), 10);
        World w = now;
        List<Version> kept = new ArrayList<>();
        for (int[] x : w.versions(v -> (v.frozen || w.stateOf(v.maker) == 1) && w.unended(v))) kept.add(w.at(x[0], x[1]).version);
        kept.sort(Comparator.comparingInt(v -> v.key * 100 + v.row));
        w.pages.forEach(List::clear);
        w.index.clear();
        for (Version v : kept) {
            v.light = false;
            v.ender = NONE;
            v.nextPage = NONE;
            v.nextSlot = NONE;
            int p = w.firstPage(v.size);
            need(p != NONE, 5);
            w.put(p, v);
        }
        w.clear = new boolean[6];
        return (int) w.pages.stream().filter(p -> !p.isEmpty()).count();
    }

    int set(int what, int much) {
        needWhat(what, 1);
        int was = what == 0 ? now.batch : now.age;
        need(what == 0 ? much >= 1 && much <= 8 : much >= 0 && much <= 30, 1);
        if (what == 0) now.batch = much; else now.age = much;
        return was;
    }

    int paper(String name, int... a) {
        World w = now;
        switch (name) {
            case "without": needTxn(a[0]); needOpen(a[0]); return w.horizonBut(a[0]);
            case "ring": return w.ring(a[0], needEnder(a[0], a[1]));
            case "blocks": needTxn(a[0]); needOpen(a[0]); return blocks(a[0]);
            case "holder":
                for (int t = 1; t <= w.txns.size(); t++) if (w.stateOf(t) == 0 && w.low(t) == w.horizon()) return t;
                throw new Refused(5);
            case "holds": {
                needTxn(a[0]);
                needOpen(a[0]);
                World then = w.twin();
                then.txn(a[0]).state = 1;
                return then.deadUnits() - w.deadUnits();
            }
            case "gains": return gains(a[0]);
            case "best": return best();
            case "reads":
                needWhat(a[1], 99);
                needTxn(a[0]);
                needOpen(a[0]);
                return (int) w.index.stream().filter(e -> e.key == a[1] && !e.killed && !w.clear[e.page]).count();
            case "most": {
                needPage(a[0]);
                World then = w.twin();
                for (Txn t : then.txns) if (t.state == 0) t.state = 1;
                then.vacuum();
                return then.free(a[0]);
            }
            default: throw new IllegalArgumentException(name);
        }
    }

    int blocks(int t) {
        Set<Integer> held = new TreeSet<>();
        held.add(t);
        for (int round = 0; round < 60; round++)
            for (int o = 1; o <= now.txns.size(); o++) if (held.contains(now.txn(o).waits)) held.add(o);
        return held.size() - 1;
    }

    int gains(int what) {
        needWhat(what, 5);
        World then = now.twin();
        int stubs = then.vacuum();
        int[] told = {then.freeInAll() - now.freeInAll(), then.counts[1] - now.counts[1], stubs,
            then.counts[3] - now.counts[3], then.counts[4] - now.counts[4], then.counts[5] - now.counts[5]};
        return told[what];
    }

    int best() {
        int best = NONE;
        int most = 0;
        for (int p = 0; p < 6; p++) {
            World then = now.twin();
            then.prune(p);
            if (then.free(p) - now.free(p) > most) {
                most = then.free(p) - now.free(p);
                best = p;
            }
        }
        need(best != NONE, 5);
        return best;
    }

    // The text: all of it is cut into tokens first, then read line by line.

    record Token(char kind, int place, String text) { }

    static List<Token> tokens(String text) {
        List<Token> all = new ArrayList<>();
        int i = 0;
        while (i < text.length()) {
            char c = text.charAt(i);
            if (c == 10 || c == 32) {
                i++;
                continue;
            }
            int end = i + 1;
            char kind = 'x';
            if (c == ';') kind = ';';
            for (String set : new String[] {"abcdefghijklmnopqrstuvwxyz", "0123456789"}) {
                if (set.indexOf(c) < 0) continue;
                while (end < text.length() && set.indexOf(text.charAt(end)) >= 0) end++;
                kind = set.charAt(0) == 'a' ? 'w' : end - i > 3 ? 'x' : 'n';
            }
            all.add(new Token(kind, i, text.substring(i, end)));
            i = end;
        }
        all.add(new Token('e', text.length(), ""));
        return all;
    }

    static final class Fault extends RuntimeException {
        private static final long serialVersionUID = 1L;
        final int kind;
        final int place;

        Fault(int kind, int place) {
            super(null, null, false, false);
            this.kind = kind;
            this.place = place;
        }
    }

    static final String LINES = " units:1 batch:1 age:1 row:3 begin:0 insert:4 update:5 delete:2 commit:1 abort:1"
        + " prune:1 vacuum:0 look:2 repack:0 ";

    int load(int n) {
        need(n >= 0 && n <= tape.size(), 1);
        StringBuilder text = new StringBuilder();
        for (int i = 0; i < n; i++) text.append((char) (int) tape.get(i));
        tape.clear();
        now = new World();
        fault = 0;
        faultPlace = NONE;
        try {
            read(tokens(text.toString()));
        } catch (Fault f) {
            fault = f.kind;
            faultPlace = f.place;
            throw new Refused(9);
        }
        return now.rows;
    }

    Token expect(char kind, Token t) {
        if (t.kind() == 'x') throw new Fault(1, t.place());
        if (t.kind() != kind) throw new Fault(2, t.place());
        return t;
    }

    void read(List<Token> tokens) {
        Set<String> told = new TreeSet<>();
        boolean acts = false;
        int i = 0;
        while (tokens.get(i).kind() != 'e') {
            Token word = expect('w', tokens.get(i++));
            int at = LINES.indexOf(" " + word.text() + ":");
            if (at < 0) throw new Fault(2, word.place());
            boolean setting = List.of("units", "batch", "age").contains(word.text());
            boolean row = word.text().equals("row");
            if (setting && (acts || told.contains("row") || told.contains(word.text()))) throw new Fault(5, word.place());
            if (row && acts) throw new Fault(5, word.place());
            told.add(word.text());
            acts |= !setting && !row;
            int[] a = new int[LINES.charAt(at + word.text().length() + 2) - '0'];
            for (int k = 0; k < a.length; k++) {
                Token number = expect('n', tokens.get(i++));
                a[k] = Integer.parseInt(number.text());
                if (!canBe(word.text(), k, a[k])) throw new Fault(4, number.place());
            }
            perform(word, a);
            expect(';', tokens.get(i++));
        }
    }

    static boolean canBe(String word, int k, int number) {
        switch (word) {
            case "units": return number >= 32 && number <= 96;
            case "batch": return number >= 1 && number <= 8;
            case "age": return number <= 30;
            case "row": return k == 0 ? number <= 99 : k == 1 || number >= 1 && number <= 20;
            default: return true;
        }
    }

    void perform(Token word, int[] a) {
        switch (word.text()) {
            case "units": now.units = a[0]; break;
            case "batch": now.batch = a[0]; break;
            case "age": now.age = a[0]; break;
            case "row":
                if (now.rows >= 40 || now.firstPage(a[2]) == NONE) throw new Fault(6, word.place());
                now.newRow(now.firstPage(a[2]), 1, a[0], a[1], a[2]);
                break;
            default:
                try {
                    answer(word.text(), a);
                } catch (Refused r) {
                    throw new Fault(7, word.place());
                }
        }
    }
}
