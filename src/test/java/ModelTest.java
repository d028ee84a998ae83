import java.util.ArrayList;
import java.util.List;
import java.util.Random;
import java.util.TreeMap;

/** Holds the engine against the model: random texts, right and wrong, and then every question about them. */
public final class ModelTest {
    private static final int RUNS = 400;
    private static int wrong = 0;
    private static long asked = 0;
    private static final int[] VERDICTS = new int[4];

    private final Random random;
    private final int run;
    private EpochEngine x = new EpochEngine();
    private Model m = new Model();
    private final List<String> said = new ArrayList<>();

    private ModelTest(int run) {
        this.run = run;
        random = new Random(run);
    }

    public static void main(String[] args) {
        int runs = args.length > 0 ? Integer.parseInt(args[0]) : RUNS;
        for (int run = 0; run < runs && wrong < 20; run++) {
            new ModelTest(run).go();
        }
        System.out.println("ModelTest: " + asked + " answers held against the model, " + wrong + " wrong");
        System.out.println("  (" + VERDICTS[1] + " commits, " + VERDICTS[2] + " stale, " + VERDICTS[3] + " phantoms)");
        if (wrong > 0) {
            System.exit(1);
        }
    }

    private void due(String call, int got, int want) {
        asked++;
        if (got != want) {
            wrong++;
            System.out.println("run " + run + ": " + call + " answered " + got + ", the model says " + want);
            System.out.println("  " + said);
        }
    }

    private void go() {
        tellAll();
        for (int i = 0; i < 12; i++) {
            wildCalls();
            askAll(mostlyFirst(), mostlyFirst(), mostlyFirst(), mostlyFirst());
            change();
            tellFitting();
        }
    }

    /** Schedules are made for the first store and the first tasks: those are asked most. */
    private int mostlyFirst() {
        return random.nextInt(6) == 0 ? random.nextInt(3) : 0;
    }

    private void tellFitting() {
        if (random.nextInt(3) == 0) {
            tell(0, 0, storeText());
            tell(1, 0, tasksText());
        }
        tell(2, 0, scheduleText());
        tell(3, 0, diaryText());
    }

    private void tellAll() {
        for (int i = 0; i < 2; i++) {
            tell(0, Model.NONE, storeText());
            tell(1, Model.NONE, tasksText());
        }
        for (int i = 0; i < 2; i++) {
            tell(2, Model.NONE, scheduleText());
            tell(3, Model.NONE, diaryText());
        }
    }

    private void change() {
        int sort = random.nextInt(4);
        String text = switch (sort) {
            case 0 -> storeText();
            case 1 -> tasksText();
            case 2 -> scheduleText();
            default -> diaryText();
        };
        if (random.nextInt(3) == 0) {
            text = spoil(text);
        }
        tell(sort, random.nextInt(4) - 1, text);
        int k = random.nextInt(5) - 1;
        if (random.nextInt(4) == 0) {
            due("image(" + k + ")", x.image(k) ? 1 : 0, m.image(k) ? 1 : 0);
            said.add("image " + k);
        } else if (random.nextInt(6) == 0) {
            due("again(" + k + ")", x.again(k) ? 1 : 0, m.again(k) ? 1 : 0);
            said.add("again " + k);
        }
    }

    private void tell(int sort, int at, String text) {
        for (int i = 0; i < text.length(); i += 20) {
            int a = Teller.four(text, i);
            int b = Teller.four(text, i + 4);
            int c = Teller.four(text, i + 8);
            int d = Teller.four(text, i + 12);
            int e = Teller.four(text, i + 16);
            due("feed", x.feed(a, b, c, d, e), m.feed(a, b, c, d, e));
        }
        due("end", x.end(text.length()), m.end(text.length()));
        due("text(" + sort + ", " + at + ") " + text, x.text(sort, at), m.text(sort, at));
        said.add(sort + " at " + at + ": " + text);
        for (int what = -1; what < 3; what++) {
            due("fault(" + what + ") of " + text, x.fault(what), m.fault(what));
        }
        for (int s = -1; s < 5; s++) {
            due("count(" + s + ")", x.count(s), m.count(s));
        }
        int n = random.nextInt(30) - 2;
        due("end(" + n + ")", x.end(n), m.end(n));
        due("feed", x.feed(n, n, n, n, n), m.feed(n, n, n, n, n));
        due("end(0)", x.end(0), m.end(0));
    }

    private void wildCalls() {
        int[] w = new int[5];
        for (int i = 0; i < 20; i++) {
            for (int j = 0; j < 5; j++) {
                w[j] = random.nextInt(4) == 0 ? random.nextInt() : random.nextInt(12) - 3;
            }
            String a = w[0] + ", " + w[1] + ", " + w[2] + ", " + w[3] + ", " + w[4];
            due("store " + a, x.store(w[0], w[1]), m.store(w[0], w[1]));
            due("task " + a, x.task(w[0], w[1], w[2]), m.task(w[0], w[1], w[2]));
            due("deed " + a, x.deed(w[0], w[1], w[2]), m.deed(w[0], w[1], w[2]));
            due("stop " + a, x.stop(w[0], w[1], w[2]), m.stop(w[0], w[1], w[2]));
            due("state " + a, x.state(w[0], w[1], w[2], w[3], w[4]), m.state(w[0], w[1], w[2], w[3], w[4]));
            due("why " + a, x.why(w[0], w[1], w[2], w[3], w[4]), m.why(w[0], w[1], w[2], w[3], w[4]));
            due("serial " + a, x.serial(w[0], w[1], w[2], w[3]), m.serial(w[0], w[1], w[2], w[3]));
            due("fact " + a, x.fact(w[0], w[1], w[2]), m.fact(w[0], w[1], w[2]));
            due("fits " + a, x.fits(w[0], w[1], w[2], w[3], w[4]), m.fits(w[0], w[1], w[2], w[3], w[4]));
            due("drawn " + a, x.drawn(w[0], w[1], w[2], w[3], w[4]), m.drawn(w[0], w[1], w[2], w[3], w[4]));
            due("keys " + a, x.keys(w[0], w[1], w[2]), m.keys(w[0], w[1], w[2]));
            due("free " + a, x.free(w[0], w[1]), m.free(w[0], w[1]));
            due("alone " + a, x.alone(w[0], w[1], w[2], w[3]), m.alone(w[0], w[1], w[2], w[3]));
            due("swaps " + a, x.swaps(w[0], w[1]), m.swaps(w[0], w[1]));
            due("weave " + a, x.weave(w[0], w[1], w[2], w[3], w[4]), m.weave(w[0], w[1], w[2], w[3], w[4]));
            due("risk " + a, x.risk(w[0], w[1], w[2]), m.risk(w[0], w[1], w[2]));
            due("after " + a, x.after(w[0], w[1], w[2], w[3]), m.after(w[0], w[1], w[2], w[3]));
            due("count " + a, x.count(w[0]), m.count(w[0]));
            due("fault " + a, x.fault(w[0]), m.fault(w[0]));
        }
    }

    private void askAll(int s, int t, int p, int d) {
        String at = "(" + s + ", " + t + ", " + p + ", ";
        due("stop" + at, x.stop(s, t, p), m.stop(s, t, p));
        int stop = Math.max(m.stop(s, t, p), 0);
        int n = random.nextInt(3) == 0 ? stop : random.nextInt(stop + 2);
        for (int what = -2; what < 112; what++) {
            due("state" + at + n + ", " + what + ")", x.state(s, t, p, n, what), m.state(s, t, p, n, what));
        }
        for (int k = -1; k < 42; k++) {
            for (int what = -1; what < 5; what++) {
                int want = m.why(s, t, p, k, what);
                due("why" + at + k + ", " + what + ")", x.why(s, t, p, k, what), want);
                if (what == 0 && want >= 0) {
                    VERDICTS[want]++;
                }
                due("deed(" + p + ", " + k + ", " + what + ")", x.deed(p, k, what), m.deed(p, k, what));
            }
        }
        int some = random.nextInt(62);
        for (int what = -1; what < 62; what++) {
            boolean dear = what == 1 || what >= 50;
            if (!dear || what == 1 || what == 50 + some % 7) {
                due("serial" + at + what + ")", x.serial(s, t, p, what), m.serial(s, t, p, what));
            }
        }
        for (int what = -1; what < 28; what++) {
            due("fits" + at + d + ", " + what + ")", x.fits(s, t, p, d, what), m.fits(s, t, p, d, what));
        }
        for (int what = -1; what < 7; what++) {
            due("after" + at + what + ")", x.after(s, t, p, what), m.after(s, t, p, what));
        }
        askTold(s, t, d);
        askTasks(s, t);
        int seed = random.nextInt();
        for (int what = -2; what < 112; what++) {
            due("drawn(" + s + ", " + t + ", " + seed + ", " + some + ", " + what + ")",
                    x.drawn(s, t, seed, some, what), m.drawn(s, t, seed, some, what));
        }
    }

    private void askTold(int s, int t, int d) {
        for (int what = -1; what < 22; what++) {
            due("store(" + s + ", " + what + ")", x.store(s, what), m.store(s, what));
        }
        for (int k = -2; k < 10; k++) {
            for (int what = -1; what < 75; what++) {
                due("task(" + t + ", " + k + ", " + what + ")", x.task(t, k, what), m.task(t, k, what));
            }
            for (int what = -1; what < 4; what++) {
                due("fact(" + d + ", " + k + ", " + what + ")", x.fact(d, k, what), m.fact(d, k, what));
            }
        }
    }

    private void askTasks(int s, int t) {
        for (int what = -1; what < 3; what++) {
            due("free(" + t + ", " + what + ")", x.free(t, what), m.free(t, what));
        }
        due("swaps(" + s + ", " + t + ")", x.swaps(s, t), m.swaps(s, t));
        for (int k = -1; k < 8; k++) {
            for (int what = -1; what < 3; what++) {
                due("keys(" + t + ", " + k + ", " + what + ")", x.keys(t, k, what), m.keys(t, k, what));
            }
            for (int what = -1; what < 21; what++) {
                String call = "alone(" + s + ", " + t + ", " + k + ", " + what + ")";
                due(call, x.alone(s, t, k, what), m.alone(s, t, k, what));
            }
        }
        int a = random.nextInt(7);
        int b = random.nextInt(7);
        for (int what = -1; what < 6; what++) {
            String call = "weave(" + s + ", " + t + ", " + a + ", " + b + ", " + what + ")";
            due(call, x.weave(s, t, a, b, what), m.weave(s, t, a, b, what));
        }
        due("risk(" + s + ", " + t + ", " + a + ")", x.risk(s, t, a), m.risk(s, t, a));
    }

    private String gap() {
        int r = random.nextInt(40);
        return r == 0 ? "\n" : r == 1 ? "  " : r == 2 ? " \n " : "";
    }

    private String line(String word, int... numbers) {
        StringBuilder b = new StringBuilder(gap()).append(word);
        for (int i = 0; i < numbers.length; i++) {
            b.append(i == 0 && random.nextInt(10) == 0 ? "" : " ").append(gap());
            b.append(numbers[i] < 10 && random.nextInt(12) == 0 ? "0" : "").append(numbers[i]);
        }
        return b.append(gap()).append(";").toString();
    }

    private String storeText() {
        StringBuilder b = new StringBuilder();
        if (random.nextInt(4) > 0) {
            b.append(line("span", 1 + random.nextInt(5)));
        }
        if (random.nextInt(4) > 0) {
            b.append(line("workers", 1 + random.nextInt(4)));
        }
        int keys = random.nextInt(9);
        for (int i = 0; i < keys; i++) {
            b.append(line("key", random.nextInt(10), random.nextInt(100)));
        }
        return b.toString();
    }

    /** Few keys, so that tasks meet; many for some texts, so that all keys are tried. */
    private String tasksText() {
        StringBuilder b = new StringBuilder();
        int tasks = random.nextInt(8);
        int span = random.nextInt(3) == 0 ? 10 : 1 + random.nextInt(5);
        int most = random.nextBoolean() ? 6 : 1 + random.nextInt(3);
        for (int t = 0; t < tasks; t++) {
            b.append(line("task"));
            int steps = random.nextInt(most + 1);
            for (int i = 0; i < steps && b.length() < 560; i++) {
                b.append(stepLine(random.nextInt(span), random.nextInt(span)));
            }
        }
        return b.toString();
    }

    private String stepLine(int key, int other) {
        return switch (random.nextInt(6)) {
            case 0 -> line("read", key);
            case 1 -> line("cut", key);
            case 2 -> line("save", key);
            case 3 -> line("put", key, random.nextInt(100));
            case 4 -> line("add", key, random.nextInt(100));
            default -> line("scan", Math.min(key, other), Math.max(key, other));
        };
    }

    /** Deeds that can be, at a store with the keys that the first one has, but for a rare one. */
    private String scheduleText() {
        StringBuilder b = new StringBuilder();
        int workers = Math.max(m.store(0, 1), 1);
        int tasks = Math.max(m.task(0, Model.NONE, 0), 0);
        ModelRun guide = guide(workers, tasks);
        int most = 41 - (random.nextInt(6) == 0 ? 0 : 1 + random.nextInt(12));
        int deeds = 0;
        boolean rounds = random.nextBoolean();
        for (int tries = 0; tries < 600 && deeds < most && b.length() < 580; tries++) {
            Model.Deed d = rounds ? roundDeed(tries / 15, workers, Math.max(tasks, 1)) : randomDeed(workers, Math.max(tasks, 1));
            boolean can = guide != null && guide.can(d);
            if (can) {
                guide.act(d);
            }
            if (can || random.nextInt(300) == 0) {
                b.append(deedText(d));
                deeds++;
            }
        }
        return b.toString();
    }

    private ModelRun guide(int workers, int tasks) {
        List<List<Model.Step>> book = new ArrayList<>();
        for (int t = 0; t < tasks; t++) {
            List<Model.Step> steps = new ArrayList<>();
            for (int i = 0; i < m.task(0, t, 0); i++) {
                steps.add(new Model.Step(m.task(0, t, 10 + 10 * i), m.task(0, t, 11 + 10 * i), m.task(0, t, 12 + 10 * i)));
            }
            book.add(steps);
        }
        return new ModelRun(new Model.Shop(1, workers, new TreeMap<>()), book, workers);
    }

    /** Commits are rare, so that tasks lie side by side and come into each other's way. */
    private Model.Deed randomDeed(int workers, int tasks) {
        int w = random.nextInt(workers);
        int lot = random.nextInt(100);
        if (lot < 35) {
            return new Model.Deed(6, w, random.nextInt(tasks));
        }
        if (lot < 80) {
            return new Model.Deed(2, w, -1);
        }
        if (lot < 90) {
            return new Model.Deed(3, w, -1);
        }
        if (lot < 94) {
            return new Model.Deed(5, w, -1);
        }
        if (lot < 98) {
            return new Model.Deed(0, -1, -1);
        }
        return lot < 99 ? new Model.Deed(1, -1, -1) : new Model.Deed(4, w, -1);
    }

    /** In rounds: all begin, then all step, then all commit, so that most of those who meet are refused. */
    private Model.Deed roundDeed(int round, int workers, int tasks) {
        int w = random.nextInt(workers);
        if (random.nextInt(60) == 0) {
            return randomDeed(workers, tasks);
        }
        return switch (round % 3) {
            case 0 -> new Model.Deed(6, w, random.nextInt(tasks));
            case 1 -> new Model.Deed(2, w, -1);
            default -> new Model.Deed(3, w, -1);
        };
    }

    private String deedText(Model.Deed d) {
        String word = new String[] {"epoch", "crash", "step", "commit", "quit", "flush", "begin"}[d.kind()];
        if (d.kind() < 2) {
            return line(word);
        }
        return d.kind() == 6 ? line(word, d.worker(), d.task()) : line(word, d.worker());
    }

    /** Mostly what some set of workers would leave, so that diaries fit. */
    private String diaryText() {
        StringBuilder b = new StringBuilder();
        int facts = random.nextInt(random.nextBoolean() ? 3 : 9);
        int stop = m.stop(0, 0, 0);
        for (int i = 0; i < facts; i++) {
            int k = random.nextInt(10);
            int left = stop < 0 || random.nextInt(6) == 0 ? random.nextInt(100) - 1 : m.state(0, 0, 0, stop, 30 + k);
            b.append(left < 0 ? line("lacks", k) : line("has", k, left));
        }
        return b.toString();
    }

    private String spoil(String text) {
        StringBuilder b = new StringBuilder(text);
        int times = 1 + random.nextInt(2);
        for (int i = 0; i < times; i++) {
            int at = random.nextInt(b.length() + 1);
            String odd = " ;0123456789abkeytaskA\n\t\u00e9\u0000span";
            char c = odd.charAt(random.nextInt(odd.length()));
            int how = random.nextInt(4);
            if (how == 0) {
                b.insert(at, c);
            } else if (how == 1 && at < b.length()) {
                b.deleteCharAt(at);
            } else if (how == 2 && at < b.length()) {
                b.setCharAt(at, c);
            } else {
                b.insert(at, b.toString());
            }
        }
        return b.length() > 600 ? b.substring(0, 600) : b.toString();
    }
}
