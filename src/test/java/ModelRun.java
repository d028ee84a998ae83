import java.util.ArrayList;
import java.util.Comparator;
import java.util.List;
import java.util.Set;
import java.util.TreeMap;
import java.util.TreeSet;

/** A run of deeds, as the document's second term tells it, for Model. */
final class ModelRun {
    private static final int NONE = -1;

    /** A line of a log; a key that was cut is written with NONE. */
    record Rec(int id, int worker, int task, int epoch, int stamp, TreeMap<Integer, Integer> written,
            Set<Integer> read, Set<Integer> guarded, Set<Integer> changed) {
    }

    private static final class Hand {
        int task = NONE;
        int begun;
        int steps;
        int sum;
        int last;
        int done;
        TreeMap<Integer, Integer> read = new TreeMap<>();
        TreeMap<Integer, Integer> guarded = new TreeMap<>();
        TreeMap<Integer, Integer> written = new TreeMap<>();
        List<Rec> log = new ArrayList<>();
        int onDisk;

        void idle() {
            task = NONE;
            steps = 0;
            sum = 0;
            read = new TreeMap<>();
            guarded = new TreeMap<>();
            written = new TreeMap<>();
        }
    }

    private final Model.Shop shop;
    private final List<List<Model.Step>> book;
    private final List<Hand> hands = new ArrayList<>();
    private int epoch = 1;
    TreeMap<Integer, Integer> values;
    private int[] stamps = new int[10];
    private int[] versions = new int[10];
    private final List<Rec> made = new ArrayList<>();
    /** Of each deed: verdict, key or node, deed, stamp. */
    final List<int[]> outcomes = new ArrayList<>();
    private final List<Rec> makers = new ArrayList<>();
    private int wasted;
    private int crashes;
    private int gone;
    long seed;

    ModelRun(Model.Shop shop, List<List<Model.Step>> book, int workers) {
        this.shop = shop;
        this.book = book;
        values = new TreeMap<>(shop.values());
        for (int w = 0; w < workers; w++) {
            hands.add(new Hand());
        }
    }

    boolean can(Model.Deed d) {
        if (d.kind() == 0) {
            return epoch < 50 && hands.stream().noneMatch(h -> h.task != NONE && h.begun < epoch);
        }
        if (d.kind() == 1) {
            return true;
        }
        if (d.worker() >= hands.size()) {
            return false;
        }
        Hand h = hands.get(d.worker());
        switch (d.kind()) {
            case 2:
                return h.task != NONE && h.steps < book.get(h.task).size();
            case 3:
                return h.task != NONE && h.steps == book.get(h.task).size();
            case 4:
                return h.task != NONE;
            case 5:
                return true;
            default:
                return h.task == NONE && d.task() < book.size();
        }
    }

    void act(Model.Deed d) {
        if (!can(d)) {
            throw new IllegalStateException("a deed that can't be");
        }
        int[] outcome = {0, NONE, NONE, NONE};
        Rec maker = null;
        switch (d.kind()) {
            case 0 -> epoch++;
            case 1 -> crash();
            case 2 -> step(hands.get(d.worker()));
            case 3 -> maker = commit(d.worker(), outcome);
            case 4 -> {
                wasted += hands.get(d.worker()).steps;
                hands.get(d.worker()).idle();
            }
            case 5 -> {
                Hand h = hands.get(d.worker());
                h.onDisk = h.log.size();
                h.done = epoch - 1;
            }
            default -> {
                hands.get(d.worker()).task = d.task();
                hands.get(d.worker()).begun = epoch;
            }
        }
        outcomes.add(outcome);
        makers.add(maker);
    }

    private int node(int key) {
        return key / shop.span();
    }

    private Integer seen(Hand h, int key) {
        if (h.written.containsKey(key)) {
            int v = h.written.get(key);
            return v == NONE ? null : (Integer) v;
        }
        return values.get(key);
    }

    private void look(Hand h, int key) {
        if (!h.written.containsKey(key)) {
            if (values.containsKey(key)) {
                h.read.putIfAbsent(key, stamps[key]);
            } else {
                h.guarded.putIfAbsent(node(key), versions[node(key)]);
            }
        }
        Integer v = seen(h, key);
        h.sum = (h.sum + (v == null ? 0 : v)) % 100;
    }

    private void step(Hand h) {
        Model.Step s = book.get(h.task).get(h.steps);
        switch (s.kind()) {
            case 0 -> look(h, s.key());
            case 1 -> h.written.put(s.key(), NONE);
            case 2 -> h.written.put(s.key(), h.sum);
            case 3 -> h.written.put(s.key(), s.other());
            case 4 -> {
                look(h, s.key());
                Integer v = seen(h, s.key());
                h.written.put(s.key(), ((v == null ? 0 : v) + s.other()) % 100);
            }
            default -> {
                for (int n = node(s.key()); n <= node(s.other()); n++) {
                    h.guarded.putIfAbsent(n, versions[n]);
                }
                for (int k = s.key(); k <= s.other(); k++) {
                    if (seen(h, k) != null) {
                        look(h, k);
                    }
                }
            }
        }
        h.steps++;
    }

    private Rec commit(int w, int[] outcome) {
        Hand h = hands.get(w);
        Rec rec = null;
        for (int k : h.read.keySet()) {
            if (outcome[0] == 0 && (!values.containsKey(k) || stamps[k] != h.read.get(k))) {
                outcome[0] = 2;
                outcome[1] = k;
                outcome[2] = lastMaker(true, k);
            }
        }
        for (int n : h.guarded.keySet()) {
            if (outcome[0] == 0 && versions[n] != h.guarded.get(n)) {
                outcome[0] = 3;
                outcome[1] = n;
                outcome[2] = lastMaker(false, n);
            }
        }
        if (outcome[0] == 0) {
            rec = bring(w, h);
            outcome[0] = 1;
            outcome[3] = rec.stamp;
        } else {
            wasted += h.steps;
        }
        h.idle();
        return rec;
    }

    private int lastMaker(boolean key, int thing) {
        for (int k = makers.size() - 1; k >= 0; k--) {
            Rec r = makers.get(k);
            if (r != null && (key ? r.written.containsKey(thing) : r.changed.contains(thing))) {
                return k;
            }
        }
        return NONE;
    }

    private Rec bring(int w, Hand h) {
        Set<Integer> touched = new TreeSet<>(h.read.keySet());
        touched.addAll(h.written.keySet());
        int stamp = 1 + Math.max(h.last, touched.stream().mapToInt(k -> stamps[k]).max().orElse(0));
        stamp = Math.max(stamp, 100 * epoch + 1);
        Set<Integer> changed = new TreeSet<>();
        for (int k : h.written.keySet()) {
            boolean was = values.containsKey(k);
            put(values, k, h.written.get(k));
            stamps[k] = stamp;
            if (was != values.containsKey(k)) {
                versions[node(k)]++;
                changed.add(node(k));
            }
        }
        h.last = stamp;
        Rec rec = new Rec(made.size(), w, h.task, epoch, stamp, h.written, h.read.keySet(), h.guarded.keySet(), changed);
        h.log.add(rec);
        made.add(rec);
        return rec;
    }

    private static void put(TreeMap<Integer, Integer> values, int key, int value) {
        if (value == NONE) {
            values.remove(key);
        } else {
            values.put(key, value);
        }
    }

    private int durable() {
        return hands.stream().mapToInt(h -> h.done).min().getAsInt();
    }

    private void crash() {
        int durable = durable();
        int before = allLines();
        List<Rec> stay = new ArrayList<>();
        for (Hand h : hands) {
            wasted += h.steps;
            List<Rec> disk = new ArrayList<>(h.log.subList(0, h.onDisk));
            disk.removeIf(r -> r.epoch > durable);
            h.log = disk;
            h.onDisk = disk.size();
            stay.addAll(disk);
            h.idle();
            h.last = 0;
            h.done = durable;
        }
        stay.sort(Comparator.comparingInt(Rec::stamp).thenComparingInt(Rec::worker));
        values = new TreeMap<>(shop.values());
        stamps = new int[10];
        versions = new int[10];
        for (Rec r : stay) {
            for (int k : r.written.keySet()) {
                put(values, k, r.written.get(k));
                stamps[k] = r.stamp;
            }
        }
        crashes++;
        gone += before - allLines();
        epoch = durable + 1;
    }

    int allLines() {
        return hands.stream().mapToInt(h -> h.log.size()).sum();
    }

    List<Rec> commits() {
        List<Rec> all = new ArrayList<>();
        for (Hand h : hands) {
            all.addAll(h.log);
        }
        all.sort(Comparator.comparingInt(Rec::id));
        return all;
    }

    static int hangs(List<Rec> commits, int k) {
        Rec me = commits.get(k);
        int bits = 0;
        for (int j = 0; j < k; j++) {
            Rec r = commits.get(j);
            boolean on = false;
            for (int key : r.written.keySet()) {
                on |= me.read.contains(key) || me.written.containsKey(key);
            }
            for (int n : r.changed) {
                on |= me.guarded.contains(n);
            }
            bits |= on ? 1 << j : 0;
        }
        return bits;
    }

    int tell(int what) {
        if (what == 0) {
            return epoch;
        }
        if (what == 1) {
            return durable();
        }
        if (what == 2) {
            return made.size();
        }
        if (what == 3) {
            return (int) outcomes.stream().filter(o -> o[0] > 1).count();
        }
        if (what == 4) {
            return values.keySet().stream().mapToInt(k -> 1 << k).sum();
        }
        if (what >= 10 && what <= 19) {
            return values.getOrDefault(what - 10, NONE);
        }
        if (what >= 20 && what <= 29) {
            return stamps[what - 20];
        }
        if (what >= 40 && what <= 49) {
            return what - 40 <= node(9) ? versions[what - 40] : -2;
        }
        if (what < 50 || what > 109 || what % 10 >= hands.size()) {
            return -2;
        }
        Hand h = hands.get(what % 10);
        return new int[] {h.task, h.steps, h.sum, h.last, h.log.size(), h.onDisk}[what / 10 - 5];
    }

    private int below(int n) {
        seed = (seed * 1103515245L + 12345L) & 0xFFFFFFFFL;
        return (int) ((seed >> 16) % n);
    }

    void draw() {
        int lot = below(12);
        Model.Deed d = null;
        if (lot < 3) {
            if (!book.isEmpty()) {
                int w = below(hands.size());
                int t = below(book.size());
                d = new Model.Deed(6, w, t);
            }
        } else if (lot < 10) {
            int[] kinds = {2, 2, 2, 2, 3, 3, 5};
            d = new Model.Deed(kinds[lot - 3], below(hands.size()), NONE);
        } else if (lot == 10) {
            d = new Model.Deed(0, NONE, NONE);
        } else if (below(4) == 0) {
            d = new Model.Deed(1, NONE, NONE);
        }
        if (d != null && can(d)) {
            act(d);
        }
    }

    int after(int what) {
        switch (what) {
            case 0:
                return mostCommon(made.stream().mapToInt(Rec::task).toArray());
            case 1:
                return mostCommon(outcomes.stream().filter(o -> o[0] == 2).mapToInt(o -> o[1]).toArray());
            case 2:
                return wasted;
            case 3:
                return crashes;
            case 4:
                return gone;
            default:
                int top = 0;
                for (int s : stamps) {
                    top = Math.max(top, s);
                }
                return top;
        }
    }

    private static int mostCommon(int[] all) {
        int[] times = new int[10];
        for (int i : all) {
            times[i]++;
        }
        int best = NONE;
        for (int i = 9; i >= 0; i--) {
            if (times[i] > 0 && (best == NONE || times[i] >= times[best])) {
                best = i;
            }
        }
        return best;
    }
}
