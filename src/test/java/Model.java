import java.util.ArrayList;
import java.util.Comparator;
import java.util.HashMap;
import java.util.List;
import java.util.Map;
import java.util.TreeMap;
import java.util.regex.Matcher;
import java.util.regex.Pattern;

/**
 * The document once more, slow and plain, with the whole Java library: every row of steps is tried by itself,
 * every crash is made, every order is run. ModelTest holds the engine against it, call by call.
 */
final class Model {
    static final int NONE = -1;
    private static final Map<String, int[]> SHAPES = new HashMap<>();
    private static final String[][] WORDS = {
        {"span", "workers", "key"},
        {"read", "cut", "save", "put", "add", "scan", "task"},
        {"epoch", "crash", "step", "commit", "quit", "flush", "begin"},
        {"has", "lacks"}};

    static {
        // A word's numbers: least and most of each.
        shape("span", 1, 5);
        shape("workers", 1, 4);
        shape("key", 0, 9, 0, 99);
        shape("task");
        shape("read", 0, 9);
        shape("cut", 0, 9);
        shape("save", 0, 9);
        shape("put", 0, 9, 0, 99);
        shape("add", 0, 9, 0, 99);
        shape("scan", 0, 9, 0, 9);
        shape("epoch");
        shape("crash");
        shape("step", 0, 3);
        shape("commit", 0, 3);
        shape("quit", 0, 3);
        shape("flush", 0, 3);
        shape("begin", 0, 3, 0, 6);
        shape("has", 0, 9, 0, 99);
        shape("lacks", 0, 9);
    }

    private static void shape(String word, int... bounds) {
        SHAPES.put(word, bounds);
    }

    record Token(String text, int place) {
    }

    record Said(String word, int place, List<Integer> numbers, List<Integer> places) {
    }

    record Shop(int span, int workers, TreeMap<Integer, Integer> values) {
    }

    record Step(int kind, int key, int other) {
    }

    record Deed(int kind, int worker, int task) {
    }

    record Fact(int key, Integer value) {
    }

    record Picture(String tape, int fault, int place, List<Shop> stores, List<List<List<Step>>> tasks,
            List<List<Deed>> schedules, List<List<Fact>> diaries) {
    }

    private String tape = "";
    private int fault = 0;
    private int place = NONE;
    private List<Shop> stores = new ArrayList<>();
    private List<List<List<Step>>> tasks = new ArrayList<>();
    private List<List<Deed>> schedules = new ArrayList<>();
    private List<List<Fact>> diaries = new ArrayList<>();
    private final Picture[] pictures = new Picture[3];

    int feed(int... numbers) {
        if (tape.length() + 20 > 600) {
            return NONE;
        }
        for (int n : numbers) {
            tape += "" + (char) (n >>> 24) + (char) (n >>> 16 & 255) + (char) (n >>> 8 & 255) + (char) (n & 255);
        }
        return tape.length();
    }

    int end(int n) {
        if (n < 0 || n > tape.length()) {
            return NONE;
        }
        tape = tape.substring(0, n);
        return n;
    }

    private List<?> ofSort(int sort) {
        return List.of(stores, tasks, schedules, diaries).get(sort);
    }

    int text(int sort, int at) {
        fault = 0;
        place = NONE;
        String it = tape;
        tape = "";
        if (sort < 0 || sort > 3) {
            return -2;
        }
        int have = ofSort(sort).size();
        if (at == NONE ? have == 2 : at < 0 || at >= have) {
            return -2;
        }
        List<Said> lines = lines(it, sort);
        if (lines != null) {
            firstFault(sort, lines);
        }
        if (fault != 0) {
            return NONE;
        }
        int number = at == NONE ? have : at;
        switch (sort) {
            case 0 -> keep(stores, at, shop(lines));
            case 1 -> keep(tasks, at, book(lines));
            case 2 -> keep(schedules, at, plan(lines));
            default -> keep(diaries, at, diary(lines));
        }
        return number;
    }

    private static <T> void keep(List<T> all, int at, T one) {
        if (at == NONE) {
            all.add(one);
        } else {
            all.set(at, one);
        }
    }

    private static List<Token> tokens(String it) {
        List<Token> all = new ArrayList<>();
        Matcher m = Pattern.compile("[a-z]+|[0-9]+|[ \\n]+|.", Pattern.DOTALL).matcher(it);
        while (m.find()) {
            if (!m.group().isBlank() || !m.group().matches("[ \\n]+")) {
                all.add(new Token(m.group(), m.start()));
            }
        }
        all.add(new Token("", it.length()));
        return all;
    }

    private List<Said> lines(String it, int sort) {
        List<Said> lines = new ArrayList<>();
        List<Token> tokens = tokens(it);
        int at = 0;
        while (!tokens.get(at).text.isEmpty()) {
            Token word = tokens.get(at++);
            if (!List.of(WORDS[sort]).contains(word.text)) {
                return broken(word);
            }
            Said said = new Said(word.text, word.place, new ArrayList<>(), new ArrayList<>());
            for (int i = 0; i < SHAPES.get(word.text).length / 2; i++) {
                Token number = tokens.get(at++);
                if (!number.text.matches("[0-9][0-9]?")) {
                    return broken(number);
                }
                said.numbers.add(Integer.parseInt(number.text));
                said.places.add(number.place);
            }
            Token mark = tokens.get(at++);
            if (!mark.text.equals(";")) {
                return broken(mark);
            }
            lines.add(said);
        }
        return lines;
    }

    private List<Said> broken(Token t) {
        fault = 1;
        place = t.place;
        return null;
    }

    private void firstFault(int sort, List<Said> lines) {
        List<int[]> faults = new ArrayList<>();
        int told = 0;
        int steps = 0;
        for (Said s : lines) {
            int[] bounds = SHAPES.get(s.word);
            for (int i = 0; i < s.numbers.size(); i++) {
                int n = s.numbers.get(i);
                boolean back = s.word.equals("scan") && i == 1 && n < s.numbers.get(0);
                if (n < bounds[2 * i] || n > bounds[2 * i + 1] || back) {
                    faults.add(new int[] {s.places.get(i), 2});
                }
            }
            boolean over = false;
            if (sort == 1 && s.word.equals("task")) {
                over = ++told > 7;
                steps = 0;
            } else if (sort == 1) {
                over = ++steps > 6 || told == 0;
            } else if (sort > 1) {
                over = ++told > (sort == 2 ? 40 : 8);
            }
            if (over) {
                faults.add(new int[] {s.place, 3});
            }
        }
        faults.sort(Comparator.<int[]>comparingInt(f -> f[0]).thenComparingInt(f -> f[1]));
        if (!faults.isEmpty()) {
            place = faults.get(0)[0];
            fault = faults.get(0)[1];
        }
    }

    private static Shop shop(List<Said> lines) {
        int span = 2;
        int workers = 2;
        TreeMap<Integer, Integer> values = new TreeMap<>();
        for (Said s : lines) {
            switch (s.word) {
                case "span" -> span = s.numbers.get(0);
                case "workers" -> workers = s.numbers.get(0);
                default -> values.put(s.numbers.get(0), s.numbers.get(1));
            }
        }
        return new Shop(span, workers, values);
    }

    private static int number(Said s, int i) {
        return i < s.numbers.size() ? s.numbers.get(i) : NONE;
    }

    private static List<List<Step>> book(List<Said> lines) {
        List<List<Step>> all = new ArrayList<>();
        for (Said s : lines) {
            if (s.word.equals("task")) {
                all.add(new ArrayList<>());
            } else {
                int kind = List.of(WORDS[1]).indexOf(s.word);
                all.get(all.size() - 1).add(new Step(kind, number(s, 0), number(s, 1)));
            }
        }
        return all;
    }

    private static List<Deed> plan(List<Said> lines) {
        List<Deed> all = new ArrayList<>();
        for (Said s : lines) {
            all.add(new Deed(List.of(WORDS[2]).indexOf(s.word), number(s, 0), number(s, 1)));
        }
        return all;
    }

    private static List<Fact> diary(List<Said> lines) {
        List<Fact> all = new ArrayList<>();
        for (Said s : lines) {
            all.add(new Fact(number(s, 0), s.word.equals("has") ? (Integer) number(s, 1) : null));
        }
        return all;
    }

    int fault(int what) {
        return what == 0 ? fault : what == 1 ? place : NONE;
    }

    private static <T> boolean in(List<T> all, int i) {
        return i >= 0 && i < all.size();
    }

    private static int orNone(Integer value) {
        return value == null ? NONE : value;
    }

    int store(int store, int what) {
        if (!in(stores, store)) {
            return -2;
        }
        Shop s = stores.get(store);
        if (what == 0) {
            return s.span;
        }
        if (what == 1) {
            return s.workers;
        }
        if (what == 2) {
            return s.values.keySet().stream().mapToInt(k -> 1 << k).sum();
        }
        return what >= 10 && what <= 19 ? orNone(s.values.get(what - 10)) : -2;
    }

    int task(int book, int t, int what) {
        if (!in(tasks, book)) {
            return -2;
        }
        if (t == NONE) {
            return what == 0 ? tasks.get(book).size() : -2;
        }
        if (!in(tasks.get(book), t)) {
            return -2;
        }
        List<Step> steps = tasks.get(book).get(t);
        if (what == 0) {
            return steps.size();
        }
        for (int i = 0; i < steps.size(); i++) {
            if (what == 10 + 10 * i) {
                return steps.get(i).kind;
            }
            if (what == 11 + 10 * i) {
                return steps.get(i).key;
            }
            if (what == 12 + 10 * i) {
                return steps.get(i).other;
            }
        }
        return -2;
    }

    int deed(int schedule, int k, int what) {
        if (!in(schedules, schedule)) {
            return -2;
        }
        List<Deed> all = schedules.get(schedule);
        if (k == NONE) {
            return what == 0 ? all.size() : -2;
        }
        if (!in(all, k) || what < 0 || what > 2) {
            return -2;
        }
        Deed d = all.get(k);
        return what == 0 ? d.kind : what == 1 ? d.worker : d.task;
    }

    int fact(int diary, int k, int what) {
        if (!in(diaries, diary)) {
            return -2;
        }
        List<Fact> all = diaries.get(diary);
        if (k == NONE) {
            return what == 0 ? all.size() : -2;
        }
        if (!in(all, k) || what < 0 || what > 1) {
            return -2;
        }
        return what == 0 ? all.get(k).key : orNone(all.get(k).value);
    }

    private boolean there(int store, int book, int schedule) {
        return in(stores, store) && in(tasks, book) && in(schedules, schedule);
    }

    private ModelRun played(int store, int book, int schedule) {
        ModelRun run = new ModelRun(stores.get(store), tasks.get(book), stores.get(store).workers);
        for (Deed d : schedules.get(schedule)) {
            if (!run.can(d)) {
                break;
            }
            run.act(d);
        }
        return run;
    }

    int stop(int store, int book, int schedule) {
        return there(store, book, schedule) ? played(store, book, schedule).outcomes.size() : NONE;
    }

    private ModelRun first(int store, int book, int schedule, int n) {
        ModelRun run = new ModelRun(stores.get(store), tasks.get(book), stores.get(store).workers);
        for (Deed d : schedules.get(schedule).subList(0, n)) {
            run.act(d);
        }
        return run;
    }

    int state(int store, int book, int schedule, int n, int what) {
        if (!there(store, book, schedule) || n < 0 || n > stop(store, book, schedule)) {
            return -2;
        }
        ModelRun run = first(store, book, schedule, n);
        if (what != 5 && (what < 30 || what > 39)) {
            return run.tell(what);
        }
        int before = run.allLines();
        run.act(new Deed(1, NONE, NONE));
        return what == 5 ? before - run.allLines() : orNone(run.values.get(what - 30));
    }

    int why(int store, int book, int schedule, int k, int what) {
        if (!there(store, book, schedule)) {
            return -2;
        }
        ModelRun run = played(store, book, schedule);
        if (!in(run.outcomes, k) || what < 0 || what > 3) {
            return -2;
        }
        return run.outcomes.get(k)[what];
    }

    int serial(int store, int book, int schedule, int what) {
        if (!there(store, book, schedule)) {
            return NONE;
        }
        ModelRun run = played(store, book, schedule);
        List<ModelRun.Rec> commits = run.commits();
        if (what == 0) {
            return commits.size();
        }
        if (what >= 10 && what < 40) {
            int k = what % 10;
            if (k >= commits.size()) {
                return NONE;
            }
            ModelRun.Rec r = commits.get(k);
            return what < 20 ? r.task() : what < 30 ? r.stamp() : ModelRun.hangs(commits, k);
        }
        if (commits.size() > 6 || what != 1 && (what < 50 || what >= 50 + commits.size() || what > 59)) {
            return NONE;
        }
        List<List<Integer>> rows = new ArrayList<>();
        rows(new ArrayList<>(), commits.size(), rows);
        int good = 0;
        List<Integer> first = null;
        for (List<Integer> row : rows) {
            TreeMap<Integer, Integer> values = stores.get(store).values;
            for (int c : row) {
                values = runAlone(stores.get(store), tasks.get(book), commits.get(c).task(), values).values;
            }
            if (values.equals(run.values)) {
                good++;
                first = first == null ? row : first;
            }
        }
        if (what == 1) {
            return good;
        }
        return first == null ? NONE : first.get(what - 50);
    }

    private static void rows(List<Integer> sofar, int n, List<List<Integer>> all) {
        if (sofar.size() == n) {
            all.add(new ArrayList<>(sofar));
            return;
        }
        for (int c = 0; c < n; c++) {
            if (!sofar.contains(c)) {
                sofar.add(c);
                rows(sofar, n, all);
                sofar.remove(sofar.size() - 1);
            }
        }
    }

    record Alone(TreeMap<Integer, Integer> values, int sum) {
    }

    /** A task alone is a schedule of one worker: begin, its steps, commit. */
    private static Alone runAlone(Shop shop, List<List<Step>> book, int t, TreeMap<Integer, Integer> values) {
        ModelRun run = new ModelRun(new Shop(shop.span, 1, values), book, 1);
        run.act(new Deed(6, 0, t));
        for (int i = 0; i < book.get(t).size(); i++) {
            run.act(new Deed(2, 0, NONE));
        }
        int sum = run.tell(70);
        run.act(new Deed(3, 0, NONE));
        return new Alone(run.values, sum);
    }

    int fits(int store, int book, int schedule, int diary, int what) {
        if (!there(store, book, schedule) || !in(diaries, diary)) {
            return -2;
        }
        int workers = stores.get(store).workers;
        List<Integer> sets = new ArrayList<>();
        List<TreeMap<Integer, Integer>> ends = new ArrayList<>();
        for (int set = 0; set < 1 << workers; set++) {
            ModelRun run = played(store, book, schedule);
            for (int w = 0; w < workers; w++) {
                if ((set >> w & 1) == 1) {
                    run.act(new Deed(5, w, NONE));
                }
            }
            run.act(new Deed(1, NONE, NONE));
            if (diaries.get(diary).stream().allMatch(f -> orNone(run.values.get(f.key)) == orNone(f.value))) {
                sets.add(set);
                ends.add(run.values);
            }
        }
        if (what == 0) {
            return sets.size();
        }
        if (what == 1) {
            return ask(ends);
        }
        if (what == 2) {
            return sets.stream().mapToInt(Integer::bitCount).min().orElse(NONE);
        }
        if (what >= 3 && what <= 6) {
            int w = what - 3;
            long with = sets.stream().filter(s -> (s >> w & 1) == 1).count();
            if (w >= workers || sets.isEmpty()) {
                return NONE;
            }
            return with == sets.size() ? 1 : with == 0 ? 0 : NONE;
        }
        return what >= 10 && what - 10 < sets.size() ? sets.get(what - 10) : -2;
    }

    private static int ask(List<TreeMap<Integer, Integer>> ends) {
        int best = NONE;
        int least = Integer.MAX_VALUE;
        for (int k = 0; k < 10 && !ends.isEmpty(); k++) {
            Map<Integer, Integer> shares = new HashMap<>();
            for (TreeMap<Integer, Integer> e : ends) {
                shares.merge(orNone(e.get(k)), 1, Integer::sum);
            }
            int most = shares.values().stream().mapToInt(i -> i).max().getAsInt();
            if (most < least) {
                least = most;
                best = k;
            }
        }
        return best;
    }

    int drawn(int store, int book, int seed, int n, int what) {
        if (!in(stores, store) || !in(tasks, book) || n < 0 || n > 60 || what == 5 || what >= 30 && what <= 39) {
            return -2;
        }
        ModelRun run = new ModelRun(stores.get(store), tasks.get(book), stores.get(store).workers);
        run.seed = seed & 0xFFFFFFFFL;
        for (int i = 0; i < n; i++) {
            run.draw();
        }
        return run.tell(what);
    }

    private static int[] looksAndWrites(List<Step> steps) {
        int looks = 0;
        int writes = 0;
        for (Step s : steps) {
            if (s.kind == 0 || s.kind == 4) {
                looks |= 1 << s.key;
            }
            if (s.kind >= 1 && s.kind <= 4) {
                writes |= 1 << s.key;
            }
            for (int k = s.key; s.kind == 5 && k <= s.other; k++) {
                looks |= 1 << k;
            }
        }
        return new int[] {looks, writes};
    }

    int keys(int book, int t, int what) {
        if (!in(tasks, book) || !in(tasks.get(book), t) || what < 0 || what > 1) {
            return NONE;
        }
        return looksAndWrites(tasks.get(book).get(t))[what];
    }

    int free(int book, int what) {
        if (!in(tasks, book) || what < 0 || what > 1) {
            return NONE;
        }
        List<List<Step>> all = tasks.get(book);
        int couples = 0;
        int blinds = 0;
        for (int a = 0; a < all.size(); a++) {
            int[] one = looksAndWrites(all.get(a));
            blinds |= one[0] == 0 && one[1] != 0 ? 1 << a : 0;
            for (int b = 0; b < a; b++) {
                int[] two = looksAndWrites(all.get(b));
                couples += (one[1] & two[0]) + (one[1] & two[1]) + (two[1] & one[0]) == 0 ? 1 : 0;
            }
        }
        return what == 0 ? couples : blinds;
    }

    int alone(int store, int book, int t, int what) {
        if (!in(stores, store) || !in(tasks, book) || !in(tasks.get(book), t)) {
            return -2;
        }
        Alone end = runAlone(stores.get(store), tasks.get(book), t, stores.get(store).values);
        if (what == 0) {
            return end.sum;
        }
        return what >= 10 && what <= 19 ? orNone(end.values.get(what - 10)) : -2;
    }

    int swaps(int store, int book) {
        if (!in(stores, store) || !in(tasks, book)) {
            return NONE;
        }
        Shop s = stores.get(store);
        List<List<Step>> all = tasks.get(book);
        int couples = 0;
        for (int a = 0; a < all.size(); a++) {
            for (int b = 0; b < a; b++) {
                TreeMap<Integer, Integer> ab = runAlone(s, all, b, runAlone(s, all, a, s.values).values).values;
                TreeMap<Integer, Integer> ba = runAlone(s, all, a, runAlone(s, all, b, s.values).values).values;
                couples += ab.equals(ba) ? 1 : 0;
            }
        }
        return couples;
    }

    int weave(int store, int book, int a, int b, int what) {
        if (!in(stores, store) || !in(tasks, book) || !in(tasks.get(book), a) || !in(tasks.get(book), b)
                || what < 0 || what > 4) {
            return NONE;
        }
        return woven(store, book, a, b)[what];
    }

    private int[] woven(int store, int book, int a, int b) {
        int[] counts = new int[5];
        List<List<Step>> all = tasks.get(book);
        List<Deed> deeds = new ArrayList<>();
        deeds.add(new Deed(6, 0, a));
        deeds.add(new Deed(6, 1, b));
        int[] left = {all.get(a).size(), all.get(b).size()};
        for (int w = 0; w < 2; w++) {
            if (left[w] == 0) {
                deeds.add(new Deed(3, w, NONE));
            }
        }
        weaveOn(stores.get(store), all, deeds, left, counts);
        return counts;
    }

    private static void weaveOn(Shop shop, List<List<Step>> all, List<Deed> deeds, int[] left, int[] counts) {
        if (left[0] + left[1] == 0) {
            ModelRun run = new ModelRun(shop, all, 2);
            int[] verdict = new int[2];
            for (Deed d : deeds) {
                run.act(d);
                if (d.kind == 3) {
                    verdict[d.worker] = run.outcomes.get(run.outcomes.size() - 1)[0];
                }
            }
            counts[0]++;
            counts[1] += verdict[0] == 1 && verdict[1] == 1 ? 1 : 0;
            counts[2] += verdict[0] > 1 ? 1 : 0;
            counts[3] += verdict[1] > 1 ? 1 : 0;
            counts[4] += verdict[0] == 3 || verdict[1] == 3 ? 1 : 0;
            return;
        }
        for (int w = 0; w < 2; w++) {
            if (left[w] > 0) {
                int before = deeds.size();
                deeds.add(new Deed(2, w, NONE));
                left[w]--;
                if (left[w] == 0) {
                    deeds.add(new Deed(3, w, NONE));
                }
                weaveOn(shop, all, deeds, left, counts);
                left[w]++;
                deeds.subList(before, deeds.size()).clear();
            }
        }
    }

    int risk(int store, int book, int t) {
        if (!in(stores, store) || !in(tasks, book) || !in(tasks.get(book), t)) {
            return NONE;
        }
        int bits = 0;
        for (int u = 0; u < tasks.get(book).size(); u++) {
            bits |= woven(store, book, t, u)[2] > 0 ? 1 << u : 0;
        }
        return bits;
    }

    int after(int store, int book, int schedule, int what) {
        if (!there(store, book, schedule) || what < 0 || what > 5) {
            return -2;
        }
        return played(store, book, schedule).after(what);
    }

    int count(int sort) {
        return sort < 0 || sort > 3 ? -2 : ofSort(sort).size();
    }

    boolean image(int k) {
        if (k < 0 || k > 2) {
            return false;
        }
        pictures[k] = new Picture(tape, fault, place, new ArrayList<>(stores), new ArrayList<>(tasks),
                new ArrayList<>(schedules), new ArrayList<>(diaries));
        return true;
    }

    boolean again(int k) {
        if (k < 0 || k > 2 || pictures[k] == null) {
            return false;
        }
        Picture p = pictures[k];
        tape = p.tape;
        fault = p.fault;
        place = p.place;
        stores = new ArrayList<>(p.stores);
        tasks = new ArrayList<>(p.tasks);
        schedules = new ArrayList<>(p.schedules);
        diaries = new ArrayList<>(p.diaries);
        return true;
    }
}
