import java.util.Arrays;

/** Epoch commit engine: stores, tasks, schedules and diaries told as texts. README.md says how to use it. */
public final class EpochEngine {
    public static final int NONE = -1;

    private static final int NO_SUCH = -2;

    private static final int KEYS = 10;
    private static final int WORKERS_MOST = 4;
    private static final int TASKS_MOST = 7;
    private static final int STEPS_MOST = 6;
    private static final int DEEDS_MOST = 40;
    private static final int FACTS_MOST = 8;
    private static final int TAPE_MOST = 600;
    private static final int TEXTS_MOST = 2;
    private static final int IMAGES = 3;
    private static final int DRAWS_MOST = 60;
    private static final int EPOCH_MOST = 50;
    // Every line of a log needs a begin and a commit, and no run has more than 60 deeds.
    private static final int LINES_MOST = 30;
    private static final int COMMITS_ORDERED = 6;
    private static final int SETS_MOST = 16;

    private static final int SORTS = 4;
    private static final int SORT_STORE = 0;
    private static final int SORT_TASKS = 1;
    private static final int SORT_SCHEDULE = 2;
    private static final int SORT_DIARY = 3;

    private static final int FAULT_FORM = 1;
    private static final int FAULT_NUMBER = 2;
    private static final int FAULT_LIMIT = 3;

    private static final int TOKEN_END = 0;
    private static final int TOKEN_WORD = 1;
    private static final int TOKEN_NUMBER = 2;
    private static final int TOKEN_MARK = 3;
    private static final int TOKEN_ODD = 4;

    // The words of all sorts, one row: the words of a sort stand side by side, in the order of their numbers in the face.
    private static final int WORD_SPAN = 0;
    private static final int WORD_WORKERS = 1;
    private static final int WORD_READ = 3;
    private static final int WORD_SCAN = 8;
    private static final int WORD_TASK = 9;
    private static final int WORD_EPOCH = 10;
    private static final int[] FIRST_WORD = {0, 3, 10, 17, 19};
    private static final int[] NUMBERS_OF = {1, 1, 2, 1, 1, 1, 2, 2, 2, 0, 0, 0, 1, 1, 1, 1, 2, 2, 1};
    private static final int[] LEAST_FIRST = {1, 1, 0, 0, 0, 0, 0, 0, 0, 0, 0, 0, 0, 0, 0, 0, 0, 0, 0};
    private static final int[] MOST_FIRST = {5, 4, 9, 9, 9, 9, 9, 9, 9, 0, 0, 0, 3, 3, 3, 3, 3, 9, 9};
    private static final int[] MOST_SECOND = {0, 0, 99, 0, 0, 0, 99, 99, 9, 0, 0, 0, 0, 0, 0, 0, 6, 99, 0};

    private static final int STEP_READ = 0;
    private static final int STEP_CUT = 1;
    private static final int STEP_SAVE = 2;
    private static final int STEP_PUT = 3;
    private static final int STEP_ADD = 4;
    private static final int STEP_SCAN = 5;

    private static final int DEED_EPOCH = 0;
    private static final int DEED_CRASH = 1;
    private static final int DEED_STEP = 2;
    private static final int DEED_COMMIT = 3;
    private static final int DEED_QUIT = 4;
    private static final int DEED_FLUSH = 5;
    private static final int DEED_BEGIN = 6;

    private static final int NO_COMMIT = 0;
    private static final int COMMITTED = 1;
    private static final int STALE = 2;
    private static final int PHANTOM = 3;

    private static final int WEAVE_ROWS = 0;
    private static final int WEAVE_BOTH = 1;
    private static final int WEAVE_FIRST_REFUSED = 2;
    private static final int WEAVE_SECOND_REFUSED = 3;
    private static final int WEAVE_PHANTOM = 4;
    private static final int WEAVE_COUNTS = 5;

    private final Told told;
    private final Told[] images;
    private final boolean[] imageMade;
    private final Reader reader;
    private final Machine machine;
    private final Commits commits;
    private final Sets sets;
    private final int[] woven;
    private final int[] values;
    private final int[] otherValues;
    private int seed;

    public EpochEngine() {
        told = new Told();
        images = new Told[IMAGES];
        for (int k = 0; k < IMAGES; k++) {
            images[k] = new Told();
        }
        imageMade = new boolean[IMAGES];
        reader = new Reader(told.tape);
        machine = new Machine(told.stores[0], told.books[0]);
        commits = new Commits();
        sets = new Sets();
        woven = new int[WEAVE_COUNTS];
        values = new int[KEYS];
        otherValues = new int[KEYS];
    }

    public int feed(int a, int b, int c, int d, int e) {
        if (told.tapeLength + 20 > TAPE_MOST) {
            return NONE;
        }
        told.append(a);
        told.append(b);
        told.append(c);
        told.append(d);
        told.append(e);
        return told.tapeLength;
    }

    public int end(int n) {
        if (n < 0 || n > told.tapeLength) {
            return NONE;
        }
        told.tapeLength = n;
        return n;
    }

    public int text(int sort, int at) {
        told.faultKind = 0;
        told.faultPlace = NONE;
        // The tape is taken whatever the answer is, also where no text is read.
        int length = told.tapeLength;
        told.tapeLength = 0;
        int place = told.placeFor(sort, at);
        if (place < 0) {
            return NO_SUCH;
        }
        reader.judge(sort, length);
        if (reader.faultKind != 0) {
            told.faultKind = reader.faultKind;
            told.faultPlace = reader.faultPlace;
            return NONE;
        }
        reader.pour(sort, length, told, place);
        if (at == NONE) {
            told.howMany[sort]++;
        }
        return place;
    }

    public int fault(int what) {
        if (what == 0) {
            return told.faultKind;
        }
        return what == 1 ? told.faultPlace : NONE;
    }

    public int store(int store, int what) {
        if (!told.has(SORT_STORE, store)) {
            return NO_SUCH;
        }
        Store it = told.stores[store];
        if (what == 0) {
            return it.span;
        }
        if (what == 1) {
            return it.workers;
        }
        if (what == 2) {
            return keysThere(it.value);
        }
        return inTen(what, 10) ? it.value[what - 10] : NO_SUCH;
    }

    public int task(int tasks, int t, int what) {
        if (!told.has(SORT_TASKS, tasks)) {
            return NO_SUCH;
        }
        TaskBook book = told.books[tasks];
        if (t == NONE) {
            return what == 0 ? book.size : NO_SUCH;
        }
        if (!book.holds(t)) {
            return NO_SUCH;
        }
        if (what == 0) {
            return book.steps[t];
        }
        if (what < 10 || what >= 10 + 10 * book.steps[t]) {
            return NO_SUCH;
        }
        int at = t * STEPS_MOST + what / 10 - 1;
        int column = what % 10;
        if (column == 0) {
            return book.kind[at];
        }
        if (column == 1) {
            return book.key[at];
        }
        return column == 2 ? book.other[at] : NO_SUCH;
    }

    public int deed(int schedule, int k, int what) {
        if (!told.has(SORT_SCHEDULE, schedule)) {
            return NO_SUCH;
        }
        Plan plan = told.plans[schedule];
        if (k == NONE) {
            return what == 0 ? plan.size : NO_SUCH;
        }
        if (k < 0 || k >= plan.size) {
            return NO_SUCH;
        }
        if (what == 0) {
            return plan.kind[k];
        }
        if (what == 1) {
            return plan.worker[k];
        }
        return what == 2 ? plan.task[k] : NO_SUCH;
    }

    public int stop(int store, int tasks, int schedule) {
        return play(store, tasks, schedule, DEEDS_MOST) ? machine.deeds : NONE;
    }

    public int state(int store, int tasks, int schedule, int n, int what) {
        if (n < 0 || !play(store, tasks, schedule, n) || machine.deeds < n) {
            return NO_SUCH;
        }
        if (what == 5) {
            return machine.linesLost();
        }
        if (inTen(what, 30)) {
            machine.recover(0, values, otherValues);
            return values[what - 30];
        }
        return machine.view(what);
    }

    public int why(int store, int tasks, int schedule, int k, int what) {
        if (!play(store, tasks, schedule, DEEDS_MOST) || k < 0 || k >= machine.deeds) {
            return NO_SUCH;
        }
        if (what == 0) {
            return machine.verdict[k];
        }
        if (what == 1) {
            return machine.thing[k];
        }
        if (what == 2) {
            return machine.culprit[k];
        }
        return what == 3 ? machine.stampMade[k] : NO_SUCH;
    }

    public int serial(int store, int tasks, int schedule, int what) {
        if (!play(store, tasks, schedule, DEEDS_MOST)) {
            return NONE;
        }
        commits.gather(machine);
        if (what == 0) {
            return commits.size;
        }
        if (what == 1 || inTen(what, 50)) {
            return ofOrders(what);
        }
        if (what < 10 || what >= 40 || what % 10 >= commits.size) {
            return NONE;
        }
        int k = what % 10;
        if (what < 20) {
            return commits.kept[k].task;
        }
        return what < 30 ? commits.kept[k].stamp : commits.hangs(k);
    }

    public int fact(int diary, int k, int what) {
        if (!told.has(SORT_DIARY, diary)) {
            return NO_SUCH;
        }
        Diary it = told.diaries[diary];
        if (k == NONE) {
            return what == 0 ? it.size : NO_SUCH;
        }
        if (k < 0 || k >= it.size) {
            return NO_SUCH;
        }
        if (what == 0) {
            return it.key[k];
        }
        return what == 1 ? it.value[k] : NO_SUCH;
    }

    public int fits(int store, int tasks, int schedule, int diary, int what) {
        if (!told.has(SORT_DIARY, diary) || !play(store, tasks, schedule, DEEDS_MOST)) {
            return NO_SUCH;
        }
        sets.gather(machine, told.diaries[diary]);
        if (what == 0) {
            return sets.size;
        }
        if (what == 1) {
            return sets.bestQuestion();
        }
        if (what == 2) {
            return sets.fewest();
        }
        if (what >= 3 && what < 3 + WORKERS_MOST) {
            return what - 3 < machine.workers ? sets.sure(what - 3) : NONE;
        }
        return what >= 10 && what - 10 < sets.size ? sets.member[what - 10] : NO_SUCH;
    }

    public int drawn(int store, int tasks, int seed, int n, int what) {
        if (!told.has(SORT_STORE, store) || !told.has(SORT_TASKS, tasks) || n < 0 || n > DRAWS_MOST) {
            return NO_SUCH;
        }
        machine.start(told.stores[store], told.books[tasks]);
        this.seed = seed;
        for (int i = 0; i < n; i++) {
            performDrawn(told.books[tasks].size);
        }
        return machine.view(what);
    }

    public int keys(int tasks, int t, int what) {
        if (!told.has(SORT_TASKS, tasks) || !told.books[tasks].holds(t)) {
            return NONE;
        }
        if (what == 0) {
            return told.books[tasks].readsOf(t);
        }
        return what == 1 ? told.books[tasks].writesOf(t) : NONE;
    }

    public int free(int tasks, int what) {
        if (!told.has(SORT_TASKS, tasks)) {
            return NONE;
        }
        if (what == 0) {
            return told.books[tasks].freeCouples();
        }
        return what == 1 ? told.books[tasks].blinds() : NONE;
    }

    public int alone(int store, int tasks, int t, int what) {
        if (!told.has(SORT_STORE, store) || !told.has(SORT_TASKS, tasks) || !told.books[tasks].holds(t)) {
            return NO_SUCH;
        }
        copyKeys(told.stores[store].value, values);
        int sum = told.books[tasks].runAlone(t, values);
        if (what == 0) {
            return sum;
        }
        return inTen(what, 10) ? values[what - 10] : NO_SUCH;
    }

    public int swaps(int store, int tasks) {
        if (!told.has(SORT_STORE, store) || !told.has(SORT_TASKS, tasks)) {
            return NONE;
        }
        TaskBook book = told.books[tasks];
        int couples = 0;
        for (int a = 0; a < book.size; a++) {
            for (int b = a + 1; b < book.size; b++) {
                runBoth(told.stores[store], book, a, b, values);
                runBoth(told.stores[store], book, b, a, otherValues);
                if (sameKeys(values, otherValues)) {
                    couples++;
                }
            }
        }
        return couples;
    }

    public int weave(int store, int tasks, int a, int b, int what) {
        if (!told.has(SORT_STORE, store) || !told.has(SORT_TASKS, tasks)) {
            return NONE;
        }
        TaskBook book = told.books[tasks];
        if (!book.holds(a) || !book.holds(b) || what < 0 || what >= WEAVE_COUNTS) {
            return NONE;
        }
        weaveAll(told.stores[store], book, a, b);
        return woven[what];
    }

    public int risk(int store, int tasks, int t) {
        if (!told.has(SORT_STORE, store) || !told.has(SORT_TASKS, tasks) || !told.books[tasks].holds(t)) {
            return NONE;
        }
        TaskBook book = told.books[tasks];
        int bits = 0;
        for (int other = 0; other < book.size; other++) {
            weaveAll(told.stores[store], book, t, other);
            if (woven[WEAVE_FIRST_REFUSED] > 0) {
                bits |= 1 << other;
            }
        }
        return bits;
    }

    public int after(int store, int tasks, int schedule, int what) {
        if (!play(store, tasks, schedule, DEEDS_MOST)) {
            return NO_SUCH;
        }
        switch (what) {
            case 0:
                return machine.often();
            case 1:
                return machine.hot();
            case 2:
                return machine.wasted;
            case 3:
                return machine.crashes;
            case 4:
                return machine.linesGone;
            case 5:
                return machine.topStamp();
            default:
                return NO_SUCH;
        }
    }

    public int count(int sort) {
        return sort >= 0 && sort < SORTS ? told.howMany[sort] : NO_SUCH;
    }

    public boolean image(int k) {
        if (k < 0 || k >= IMAGES) {
            return false;
        }
        images[k].copyFrom(told);
        imageMade[k] = true;
        return true;
    }

    public boolean again(int k) {
        if (k < 0 || k >= IMAGES || !imageMade[k]) {
            return false;
        }
        told.copyFrom(images[k]);
        return true;
    }

    /** Does the first n deeds, or as many of them as can be; false if there is no such store, text of tasks or schedule. */
    private boolean play(int store, int tasks, int schedule, int n) {
        if (!told.has(SORT_STORE, store) || !told.has(SORT_TASKS, tasks) || !told.has(SORT_SCHEDULE, schedule)) {
            return false;
        }
        Plan plan = told.plans[schedule];
        machine.start(told.stores[store], told.books[tasks]);
        boolean can = true;
        for (int k = 0; k < n && k < plan.size && can; k++) {
            can = machine.perform(plan.kind[k], plan.worker[k], plan.task[k]);
        }
        return true;
    }

    private int ofOrders(int what) {
        if (commits.size > COMMITS_ORDERED) {
            return NONE;
        }
        commits.tryOrders(machine);
        if (what == 1) {
            return commits.found;
        }
        return what - 50 < commits.size && commits.found > 0 ? commits.firstRow[what - 50] : NONE;
    }

    private int drawBelow(int n) {
        seed = seed * 1103515245 + 12345;
        return n > 0 ? (seed >>> 16) % n : 0;
    }

    private void performDrawn(int tasks) {
        int lot = drawBelow(12);
        if (lot <= 2) {
            if (tasks > 0) {
                int w = drawBelow(machine.workers);
                machine.perform(DEED_BEGIN, w, drawBelow(tasks));
            }
        } else if (lot <= 6) {
            machine.perform(DEED_STEP, drawBelow(machine.workers), NONE);
        } else if (lot <= 8) {
            machine.perform(DEED_COMMIT, drawBelow(machine.workers), NONE);
        } else if (lot == 9) {
            machine.perform(DEED_FLUSH, drawBelow(machine.workers), NONE);
        } else if (lot == 10) {
            machine.perform(DEED_EPOCH, NONE, NONE);
        } else if (drawBelow(4) == 0) {
            machine.perform(DEED_CRASH, NONE, NONE);
        }
    }

    private static void runBoth(Store store, TaskBook book, int first, int second, int[] into) {
        copyKeys(store.value, into);
        book.runAlone(first, into);
        book.runAlone(second, into);
    }

    /**
     * Where the earlier commit can lie among the later one's steps: behind 0, 1 .. of them, but not behind the last.
     * A task without steps commits ahead of all, the first ahead of the second.
     */
    private void weaveAll(Store store, TaskBook book, int a, int b) {
        Arrays.fill(woven, 0);
        machine.start(store, book);
        int ofFirst = book.steps[a];
        int ofSecond = book.steps[b];
        int firstPlaces = ofFirst == 0 ? 1 : ofSecond;
        for (int i = 0; i < firstPlaces; i++) {
            countWoven(1, machine.weaveOnce(a, b, 0, i), waysAhead(ofFirst, i));
        }
        int secondPlaces = ofSecond == 0 ? Math.min(1, ofFirst) : ofFirst;
        for (int i = 0; i < secondPlaces; i++) {
            countWoven(0, machine.weaveOnce(a, b, 1, i), waysAhead(ofSecond, i));
        }
    }

    /** The worker that commits first can't be refused: nothing has changed by then. So the verdict is the later one's. */
    private void countWoven(int later, int verdict, int rows) {
        woven[WEAVE_ROWS] += rows;
        if (verdict == COMMITTED) {
            woven[WEAVE_BOTH] += rows;
            return;
        }
        woven[later == 0 ? WEAVE_FIRST_REFUSED : WEAVE_SECOND_REFUSED] += rows;
        if (verdict == PHANTOM) {
            woven[WEAVE_PHANTOM] += rows;
        }
    }

    /**
     * In how many ways some steps of the later worker lie among those of the earlier one, whose last step is behind them.
     * Until the first commit the store stays as it is, so all these ways come to the same and one run speaks for them.
     */
    private static int waysAhead(int stepsOfEarlier, int stepsOfLater) {
        int ways = 1;
        for (int i = 1; i <= stepsOfLater && stepsOfEarlier > 0; i++) {
            ways = ways * (stepsOfEarlier - 1 + i) / i;
        }
        return ways;
    }

    private static boolean inTen(int what, int from) {
        return what >= from && what < from + 10;
    }

    private static int keysThere(int[] row) {
        int bits = 0;
        for (int k = 0; k < KEYS; k++) {
            if (row[k] != NONE) {
                bits |= 1 << k;
            }
        }
        return bits;
    }

    private static void copyKeys(int[] from, int[] to) {
        System.arraycopy(from, 0, to, 0, KEYS);
    }

    private static boolean sameKeys(int[] one, int[] other) {
        for (int k = 0; k < KEYS; k++) {
            if (one[k] != other[k]) {
                return false;
            }
        }
        return true;
    }

    private static boolean hasBit(int bits, int k) {
        return (bits >> k & 1) != 0;
    }

    /** All that is told: what an image keeps. */
    private static final class Told {
        final byte[] tape = new byte[TAPE_MOST];
        int tapeLength;
        int faultKind;
        int faultPlace = NONE;
        final int[] howMany = new int[SORTS];
        final Store[] stores = new Store[TEXTS_MOST];
        final TaskBook[] books = new TaskBook[TEXTS_MOST];
        final Plan[] plans = new Plan[TEXTS_MOST];
        final Diary[] diaries = new Diary[TEXTS_MOST];

        Told() {
            for (int i = 0; i < TEXTS_MOST; i++) {
                stores[i] = new Store();
                books[i] = new TaskBook();
                plans[i] = new Plan();
                diaries[i] = new Diary();
            }
        }

        boolean has(int sort, int number) {
            return number >= 0 && number < howMany[sort];
        }

        void append(int four) {
            for (int shift = 24; shift >= 0 && tapeLength < TAPE_MOST; shift -= 8) {
                tape[tapeLength] = (byte) (four >>> shift);
                tapeLength++;
            }
        }

        /** Where a text of a sort would come to stand; NONE if it can't. */
        int placeFor(int sort, int at) {
            if (sort < 0 || sort >= SORTS) {
                return NONE;
            }
            if (at == NONE) {
                return howMany[sort] < TEXTS_MOST ? howMany[sort] : NONE;
            }
            return has(sort, at) ? at : NONE;
        }

        void clearPlace(int sort, int place) {
            if (sort == SORT_STORE) {
                stores[place].clear();
            } else if (sort == SORT_TASKS) {
                books[place].size = 0;
            } else if (sort == SORT_SCHEDULE) {
                plans[place].size = 0;
            } else {
                diaries[place].size = 0;
            }
        }

        /** A number that the line does not have is NONE: so a key that is lacking has that value. */
        void takeLine(int sort, int place, int word, int first, int second) {
            if (sort == SORT_STORE) {
                stores[place].take(word, first, second);
            } else if (sort == SORT_TASKS) {
                books[place].take(word, first, second);
            } else if (sort == SORT_SCHEDULE) {
                plans[place].take(word, first, second);
            } else {
                diaries[place].take(first, second);
            }
        }

        void copyFrom(Told other) {
            System.arraycopy(other.tape, 0, tape, 0, TAPE_MOST);
            tapeLength = other.tapeLength;
            faultKind = other.faultKind;
            faultPlace = other.faultPlace;
            System.arraycopy(other.howMany, 0, howMany, 0, SORTS);
            for (int i = 0; i < TEXTS_MOST; i++) {
                stores[i].copyFrom(other.stores[i]);
                books[i].copyFrom(other.books[i]);
                plans[i].copyFrom(other.plans[i]);
                diaries[i].copyFrom(other.diaries[i]);
            }
        }
    }

    /** A STORE as told; a key that is not there has the value NONE. */
    private static final class Store {
        int span;
        int workers;
        final int[] value = new int[KEYS];

        Store() {
            clear();
        }

        void clear() {
            span = 2;
            workers = 2;
            Arrays.fill(value, NONE);
        }

        void take(int word, int first, int second) {
            if (word == WORD_SPAN) {
                span = first;
            } else if (word == WORD_WORKERS) {
                workers = first;
            } else if (first >= 0 && first < KEYS) {
                value[first] = second;
            }
        }

        void copyFrom(Store other) {
            span = other.span;
            workers = other.workers;
            copyKeys(other.value, value);
        }
    }

    /** A text of TASKS; step i of task t stands at t * STEPS_MOST + i of each column. */
    private static final class TaskBook {
        int size;
        final int[] steps = new int[TASKS_MOST];
        final int[] kind = new int[TASKS_MOST * STEPS_MOST];
        final int[] key = new int[TASKS_MOST * STEPS_MOST];
        final int[] other = new int[TASKS_MOST * STEPS_MOST];

        boolean holds(int t) {
            return t >= 0 && t < size;
        }

        void take(int word, int first, int second) {
            if (word == WORD_TASK) {
                if (size < TASKS_MOST) {
                    steps[size] = 0;
                    size++;
                }
                return;
            }
            int t = size - 1;
            if (t < 0 || steps[t] >= STEPS_MOST) {
                return;
            }
            int at = t * STEPS_MOST + steps[t];
            kind[at] = word - WORD_READ;
            key[at] = first;
            other[at] = second;
            steps[t]++;
        }

        void copyFrom(TaskBook from) {
            size = from.size;
            System.arraycopy(from.steps, 0, steps, 0, TASKS_MOST);
            System.arraycopy(from.kind, 0, kind, 0, TASKS_MOST * STEPS_MOST);
            System.arraycopy(from.key, 0, key, 0, TASKS_MOST * STEPS_MOST);
            System.arraycopy(from.other, 0, other, 0, TASKS_MOST * STEPS_MOST);
        }

        int readsOf(int t) {
            int bits = 0;
            for (int i = 0; i < steps[t]; i++) {
                int at = t * STEPS_MOST + i;
                if (kind[at] == STEP_READ || kind[at] == STEP_ADD) {
                    bits |= 1 << key[at];
                } else if (kind[at] == STEP_SCAN) {
                    bits |= (2 << other[at]) - (1 << key[at]);
                }
            }
            return bits;
        }

        int writesOf(int t) {
            int bits = 0;
            for (int i = 0; i < steps[t]; i++) {
                int at = t * STEPS_MOST + i;
                if (kind[at] != STEP_READ && kind[at] != STEP_SCAN) {
                    bits |= 1 << key[at];
                }
            }
            return bits;
        }

        int freeCouples() {
            int couples = 0;
            for (int a = 0; a < size; a++) {
                for (int b = a + 1; b < size; b++) {
                    int ofA = readsOf(a) | writesOf(a);
                    int ofB = readsOf(b) | writesOf(b);
                    if ((writesOf(a) & ofB) == 0 && (writesOf(b) & ofA) == 0) {
                        couples++;
                    }
                }
            }
            return couples;
        }

        int blinds() {
            int bits = 0;
            for (int t = 0; t < size; t++) {
                if (writesOf(t) != 0 && readsOf(t) == 0) {
                    bits |= 1 << t;
                }
            }
            return bits;
        }

        /** Alone, a task's view is the row itself: it is changed in place, and the SUM is answered. */
        int runAlone(int t, int[] row) {
            int sum = 0;
            for (int i = 0; i < steps[t]; i++) {
                int at = t * STEPS_MOST + i;
                sum = stepAlone(at, row, sum);
            }
            return sum;
        }

        private int stepAlone(int at, int[] row, int sum) {
            int k = key[at];
            switch (kind[at]) {
                case STEP_READ:
                    return (sum + Math.max(row[k], 0)) % 100;
                case STEP_CUT:
                    row[k] = NONE;
                    return sum;
                case STEP_SAVE:
                    row[k] = sum;
                    return sum;
                case STEP_PUT:
                    row[k] = other[at];
                    return sum;
                case STEP_ADD:
                    int had = Math.max(row[k], 0);
                    row[k] = (had + other[at]) % 100;
                    return (sum + had) % 100;
                default:
                    int all = sum;
                    for (int j = k; j <= other[at] && j < KEYS; j++) {
                        all += Math.max(row[j], 0);
                    }
                    return all % 100;
            }
        }
    }

    /** A SCHEDULE. */
    private static final class Plan {
        int size;
        final int[] kind = new int[DEEDS_MOST];
        final int[] worker = new int[DEEDS_MOST];
        final int[] task = new int[DEEDS_MOST];

        void take(int word, int first, int second) {
            if (size < DEEDS_MOST) {
                kind[size] = word - WORD_EPOCH;
                worker[size] = first;
                task[size] = second;
                size++;
            }
        }

        void copyFrom(Plan other) {
            size = other.size;
            System.arraycopy(other.kind, 0, kind, 0, DEEDS_MOST);
            System.arraycopy(other.worker, 0, worker, 0, DEEDS_MOST);
            System.arraycopy(other.task, 0, task, 0, DEEDS_MOST);
        }
    }

    /** A DIARY; a fact that a key is lacking has the value NONE. */
    private static final class Diary {
        int size;
        final int[] key = new int[FACTS_MOST];
        final int[] value = new int[FACTS_MOST];

        void take(int first, int second) {
            if (size < FACTS_MOST) {
                key[size] = first;
                value[size] = second;
                size++;
            }
        }

        boolean agrees(int[] row) {
            for (int i = 0; i < size; i++) {
                if (row[key[i]] != value[i]) {
                    return false;
                }
            }
            return true;
        }

        void copyFrom(Diary other) {
            size = other.size;
            System.arraycopy(other.key, 0, key, 0, FACTS_MOST);
            System.arraycopy(other.value, 0, value, 0, FACTS_MOST);
        }
    }

    /** Reads the tape line by line: once to find faults, and, if there is none, once more to tell what it says. */
    private static final class Reader {
        private final byte[] tape;
        private int length;
        private int next;
        private int token;
        private int tokenAt;
        private int tokenNumber;
        private boolean broken;
        private int word;
        private int wordAt;
        private final int[] number = new int[2];
        private final int[] numberAt = new int[2];
        private int tasksTold;
        private int linesTold;
        int faultKind;
        int faultPlace;

        Reader(byte[] tape) {
            this.tape = tape;
        }

        void judge(int sort, int bytes) {
            rewind(bytes);
            faultKind = 0;
            faultPlace = NONE;
            tasksTold = 0;
            linesTold = 0;
            for (int i = 0; i < TAPE_MOST && readLine(sort); i++) {
                if (faultKind == 0) {
                    judgeLine(sort);
                }
            }
            if (broken) {
                blame(FAULT_FORM, tokenAt);
            }
        }

        void pour(int sort, int bytes, Told into, int place) {
            rewind(bytes);
            into.clearPlace(sort, place);
            for (int i = 0; i < TAPE_MOST && readLine(sort); i++) {
                into.takeLine(sort, place, word, number[0], number[1]);
            }
        }

        private void rewind(int bytes) {
            length = Math.min(bytes, TAPE_MOST);
            next = 0;
            broken = false;
        }

        private void blame(int kind, int place) {
            faultKind = kind;
            faultPlace = place;
        }

        /** In the order of places: the line's first token, then its numbers. */
        private void judgeLine(int sort) {
            if (isTooMuch(sort)) {
                blame(FAULT_LIMIT, wordAt);
            } else if (NUMBERS_OF[word] > 0 && (number[0] < LEAST_FIRST[word] || number[0] > MOST_FIRST[word])) {
                blame(FAULT_NUMBER, numberAt[0]);
            } else if (NUMBERS_OF[word] > 1 && (number[1] > MOST_SECOND[word] || isScanBackwards())) {
                blame(FAULT_NUMBER, numberAt[1]);
            }
        }

        private boolean isScanBackwards() {
            return word == WORD_SCAN && number[1] < number[0];
        }

        private boolean isTooMuch(int sort) {
            if (sort == SORT_TASKS && word == WORD_TASK) {
                tasksTold++;
                linesTold = 0;
                return tasksTold > TASKS_MOST;
            }
            linesTold++;
            if (sort == SORT_TASKS) {
                return tasksTold == 0 || linesTold > STEPS_MOST;
            }
            if (sort == SORT_SCHEDULE) {
                return linesTold > DEEDS_MOST;
            }
            return sort == SORT_DIARY && linesTold > FACTS_MOST;
        }

        /** False at the tape's end, and (then it is broken) at a byte or token with which no text goes on. */
        private boolean readLine(int sort) {
            readToken();
            if (token == TOKEN_END) {
                return false;
            }
            word = token == TOKEN_WORD ? wordOfSort(sort) : NONE;
            if (word == NONE) {
                broken = true;
                return false;
            }
            wordAt = tokenAt;
            number[0] = NONE;
            number[1] = NONE;
            for (int i = 0; i < NUMBERS_OF[word]; i++) {
                readToken();
                if (token != TOKEN_NUMBER) {
                    broken = true;
                    return false;
                }
                number[i] = tokenNumber;
                numberAt[i] = tokenAt;
            }
            readToken();
            broken = token != TOKEN_MARK;
            return !broken;
        }

        private void readToken() {
            while (next < length && (tape[next] == ' ' || tape[next] == '\n')) {
                next++;
            }
            tokenAt = next;
            if (next >= length) {
                token = TOKEN_END;
            } else if (isLetter(next)) {
                readWord();
            } else if (isDigit(next)) {
                readNumber();
            } else {
                token = tape[next] == ';' ? TOKEN_MARK : TOKEN_ODD;
                next++;
            }
        }

        private void readWord() {
            token = TOKEN_WORD;
            while (next < length && isLetter(next)) {
                next++;
            }
        }

        private void readNumber() {
            tokenNumber = 0;
            while (next < length && isDigit(next)) {
                tokenNumber = tokenNumber * 10 + tape[next] - '0';
                next++;
            }
            token = next - tokenAt <= 2 ? TOKEN_NUMBER : TOKEN_ODD;
        }

        private boolean isLetter(int at) {
            return tape[at] >= 'a' && tape[at] <= 'z';
        }

        private boolean isDigit(int at) {
            return tape[at] >= '0' && tape[at] <= '9';
        }

        private int wordOfSort(int sort) {
            for (int w = FIRST_WORD[sort]; w < FIRST_WORD[sort + 1]; w++) {
                if (isSpelled(spelling(w))) {
                    return w;
                }
            }
            return NONE;
        }

        private boolean isSpelled(String letters) {
            if (next - tokenAt != letters.length()) {
                return false;
            }
            for (int i = 0; i < letters.length(); i++) {
                if (tape[tokenAt + i] != letters.charAt(i)) {
                    return false;
                }
            }
            return true;
        }

        private static String spelling(int w) {
            switch (w) {
                case 0: return "span";
                case 1: return "workers";
                case 2: return "key";
                case 3: return "read";
                case 4: return "cut";
                case 5: return "save";
                case 6: return "put";
                case 7: return "add";
                case 8: return "scan";
                case 9: return "task";
                case 10: return "epoch";
                case 11: return "crash";
                case 12: return "step";
                case 13: return "commit";
                case 14: return "quit";
                case 15: return "flush";
                case 16: return "begin";
                case 17: return "has";
                default: return "lacks";
            }
        }
    }

    /** A WORKER: what it works at, and what it read, guarded and wrote so far (bits, and a row for each). */
    private static final class Worker {
        int task;
        int begun;
        int stepsDone;
        int sum;
        int lastStamp;
        int doneEpoch;
        int read;
        int guarded;
        int wrote;
        final int[] readStamp = new int[KEYS];
        final int[] guardedVersion = new int[KEYS];
        final int[] written = new int[KEYS];

        void reset(int done) {
            rest();
            lastStamp = 0;
            doneEpoch = done;
        }

        void rest() {
            take(NONE, 0);
        }

        void take(int newTask, int epoch) {
            task = newTask;
            begun = epoch;
            stepsDone = 0;
            sum = 0;
            read = 0;
            guarded = 0;
            wrote = 0;
        }

        void noteRead(int key, int stamp) {
            if ((read >> key & 1) == 0) {
                read |= 1 << key;
                readStamp[key] = stamp;
            }
        }

        void noteGuard(int node, int version) {
            if ((guarded >> node & 1) == 0) {
                guarded |= 1 << node;
                guardedVersion[node] = version;
            }
        }

        void write(int key, int value) {
            wrote |= 1 << key;
            written[key] = value;
        }
    }

    /** A line of a log, with what its commit read, guarded and changed. */
    private static final class Line {
        int worker;
        int task;
        int epoch;
        int stamp;
        int read;
        int guarded;
        int wrote;
        int changedNodes;
        boolean onDisk;
        boolean gone;
        final int[] written = new int[KEYS];
    }

    /** A run of deeds at a store. */
    private static final class Machine {
        Store store;
        TaskBook book;
        int workers;
        int epoch;
        final int[] value = new int[KEYS];
        private final int[] stamp = new int[KEYS];
        private final int[] version = new int[KEYS];
        private final int[] keyChanger = new int[KEYS];
        private final int[] nodeChanger = new int[KEYS];
        private final Worker[] staff = new Worker[WORKERS_MOST];
        final Line[] lines = new Line[LINES_MOST];
        int lineCount;
        int deeds;
        final int[] verdict = new int[DRAWS_MOST];
        final int[] thing = new int[DRAWS_MOST];
        final int[] culprit = new int[DRAWS_MOST];
        final int[] stampMade = new int[DRAWS_MOST];
        int wasted;
        int crashes;
        int linesGone;

        Machine(Store firstStore, TaskBook firstBook) {
            store = firstStore;
            book = firstBook;
            for (int w = 0; w < WORKERS_MOST; w++) {
                staff[w] = new Worker();
            }
            for (int i = 0; i < LINES_MOST; i++) {
                lines[i] = new Line();
            }
        }

        void start(Store atStore, TaskBook ofBook) {
            store = atStore;
            book = ofBook;
            workers = atStore.workers;
            epoch = 1;
            copyKeys(atStore.value, value);
            Arrays.fill(stamp, 0);
            Arrays.fill(version, 0);
            Arrays.fill(keyChanger, NONE);
            Arrays.fill(nodeChanger, NONE);
            for (int w = 0; w < WORKERS_MOST; w++) {
                staff[w].reset(0);
            }
            lineCount = 0;
            deeds = 0;
            wasted = 0;
            crashes = 0;
            linesGone = 0;
        }

        /** False, and nothing is done, if the deed can't be. */
        boolean perform(int kind, int w, int task) {
            if (!can(kind, w, task)) {
                return false;
            }
            verdict[deeds] = NO_COMMIT;
            thing[deeds] = NONE;
            culprit[deeds] = NONE;
            stampMade[deeds] = NONE;
            switch (kind) {
                case DEED_EPOCH:
                    epoch++;
                    break;
                case DEED_CRASH:
                    breakDown();
                    break;
                case DEED_STEP:
                    doStep(staff[w]);
                    break;
                case DEED_COMMIT:
                    tryCommit(w);
                    break;
                case DEED_QUIT:
                    wasted += staff[w].stepsDone;
                    staff[w].rest();
                    break;
                case DEED_FLUSH:
                    writeToDisk(w);
                    break;
                default:
                    staff[w].take(task, epoch);
                    break;
            }
            deeds++;
            return true;
        }

        private boolean can(int kind, int w, int task) {
            if (deeds >= DRAWS_MOST) {
                return false;
            }
            if (kind == DEED_EPOCH) {
                return canTurnEpoch();
            }
            if (kind == DEED_CRASH) {
                return true;
            }
            if (w < 0 || w >= workers) {
                return false;
            }
            Worker one = staff[w];
            boolean works = one.task != NONE;
            switch (kind) {
                case DEED_STEP:
                    return works && one.stepsDone < book.steps[one.task];
                case DEED_COMMIT:
                    return works && one.stepsDone >= book.steps[one.task];
                case DEED_QUIT:
                    return works;
                case DEED_FLUSH:
                    return true;
                default:
                    return kind == DEED_BEGIN && !works && book.holds(task);
            }
        }

        private boolean canTurnEpoch() {
            if (epoch >= EPOCH_MOST) {
                return false;
            }
            for (int w = 0; w < workers; w++) {
                if (staff[w].task != NONE && staff[w].begun < epoch) {
                    return false;
                }
            }
            return true;
        }

        private void writeToDisk(int w) {
            for (int i = 0; i < lineCount; i++) {
                if (lines[i].worker == w) {
                    lines[i].onDisk = true;
                }
            }
            staff[w].doneEpoch = epoch - 1;
        }

        private void breakDown() {
            int durable = durableWith(0);
            crashes++;
            linesGone += linesLost();
            for (int i = 0; i < lineCount; i++) {
                lines[i].gone = !survives(lines[i], 0, durable);
            }
            recover(0, value, stamp);
            Arrays.fill(version, 0);
            for (int w = 0; w < workers; w++) {
                wasted += staff[w].stepsDone;
                staff[w].reset(durable);
            }
            epoch = durable + 1;
        }

        /** DURABLE, as it would be if a set of workers (bits) were flushed now. */
        int durableWith(int flushed) {
            int least = EPOCH_MOST;
            for (int w = 0; w < workers; w++) {
                least = Math.min(least, hasBit(flushed, w) ? epoch - 1 : staff[w].doneEpoch);
            }
            return least;
        }

        private static boolean survives(Line line, int flushed, int durable) {
            boolean disk = line.onDisk || hasBit(flushed, line.worker);
            return !line.gone && disk && line.epoch <= durable;
        }

        int linesLost() {
            int durable = durableWith(0);
            int lost = 0;
            for (int i = 0; i < lineCount; i++) {
                if (!lines[i].gone && !survives(lines[i], 0, durable)) {
                    lost++;
                }
            }
            return lost;
        }

        /**
         * Keys and stamps as a crash would leave them if a set of workers (bits) were flushed now. Lines count by stamps,
         * of one stamp the lesser worker's first: so, worker by worker, a line yields to none but greater stamps.
         */
        void recover(int flushed, int[] values, int[] stamps) {
            int durable = durableWith(flushed);
            copyKeys(store.value, values);
            Arrays.fill(stamps, 0);
            for (int w = 0; w < workers; w++) {
                for (int i = 0; i < lineCount; i++) {
                    if (lines[i].worker == w && survives(lines[i], flushed, durable)) {
                        redo(lines[i], values, stamps);
                    }
                }
            }
        }

        private static void redo(Line line, int[] values, int[] stamps) {
            for (int k = 0; k < KEYS; k++) {
                if (hasBit(line.wrote, k) && line.stamp >= stamps[k]) {
                    values[k] = line.written[k];
                    stamps[k] = line.stamp;
                }
            }
        }

        private int nodeOf(int key) {
            return store.span > 0 ? key / store.span : key;
        }

        private int viewOf(Worker me, int key) {
            return (me.wrote >> key & 1) != 0 ? me.written[key] : value[key];
        }

        private void lookAt(Worker me, int key) {
            if (!hasBit(me.wrote, key)) {
                if (value[key] != NONE) {
                    me.noteRead(key, stamp[key]);
                } else {
                    me.noteGuard(nodeOf(key), version[nodeOf(key)]);
                }
            }
            me.sum = (me.sum + Math.max(viewOf(me, key), 0)) % 100;
        }

        private void scanKeys(Worker me, int from, int to) {
            for (int node = nodeOf(from); node <= nodeOf(to) && node < KEYS; node++) {
                me.noteGuard(node, version[node]);
            }
            for (int k = from; k <= to && k < KEYS; k++) {
                if (viewOf(me, k) != NONE) {
                    lookAt(me, k);
                }
            }
        }

        private void doStep(Worker me) {
            int at = me.task * STEPS_MOST + me.stepsDone;
            int key = book.key[at];
            int other = book.other[at];
            switch (book.kind[at]) {
                case STEP_READ:
                    lookAt(me, key);
                    break;
                case STEP_CUT:
                    me.write(key, NONE);
                    break;
                case STEP_SAVE:
                    me.write(key, me.sum);
                    break;
                case STEP_PUT:
                    me.write(key, other);
                    break;
                case STEP_ADD:
                    lookAt(me, key);
                    me.write(key, (Math.max(viewOf(me, key), 0) + other) % 100);
                    break;
                default:
                    scanKeys(me, key, other);
                    break;
            }
            me.stepsDone++;
        }

        private int staleKey(Worker me) {
            for (int k = 0; k < KEYS; k++) {
                if (hasBit(me.read, k) && (value[k] == NONE || stamp[k] != me.readStamp[k])) {
                    return k;
                }
            }
            return NONE;
        }

        private int phantomNode(Worker me) {
            for (int n = 0; n < KEYS; n++) {
                if (hasBit(me.guarded, n) && version[n] != me.guardedVersion[n]) {
                    return n;
                }
            }
            return NONE;
        }

        private void tryCommit(int w) {
            Worker me = staff[w];
            int key = staleKey(me);
            int node = phantomNode(me);
            if (key != NONE) {
                noteRefusal(me, STALE, key, keyChanger[key]);
            } else if (node != NONE) {
                noteRefusal(me, PHANTOM, node, nodeChanger[node]);
            } else {
                makeCommit(w);
            }
            me.rest();
        }

        private void noteRefusal(Worker me, int how, int what, int by) {
            verdict[deeds] = how;
            thing[deeds] = what;
            culprit[deeds] = by;
            wasted += me.stepsDone;
        }

        private void makeCommit(int w) {
            Worker me = staff[w];
            int made = nextStamp(me);
            verdict[deeds] = COMMITTED;
            stampMade[deeds] = made;
            me.lastStamp = made;
            int changed = bringIn(me, made);
            if (lineCount >= LINES_MOST) {
                return;
            }
            Line line = lines[lineCount];
            line.worker = w;
            line.task = me.task;
            line.epoch = epoch;
            line.stamp = made;
            line.read = me.read;
            line.guarded = me.guarded;
            line.wrote = me.wrote;
            line.changedNodes = changed;
            line.onDisk = false;
            line.gone = false;
            copyKeys(me.written, line.written);
            lineCount++;
        }

        private int nextStamp(Worker me) {
            int greatest = Math.max(me.lastStamp, 100 * epoch);
            for (int k = 0; k < KEYS; k++) {
                if (hasBit(me.read | me.wrote, k)) {
                    greatest = Math.max(greatest, stamp[k]);
                }
            }
            return greatest + 1;
        }

        /** Brings what was written into the store; answers the nodes (bits) whose versions are more by it. */
        private int bringIn(Worker me, int made) {
            int changed = 0;
            for (int k = 0; k < KEYS; k++) {
                if (hasBit(me.wrote, k)) {
                    if ((value[k] == NONE) != (me.written[k] == NONE)) {
                        changed |= 1 << nodeOf(k);
                        version[nodeOf(k)]++;
                        nodeChanger[nodeOf(k)] = deeds;
                    }
                    value[k] = me.written[k];
                    stamp[k] = made;
                    keyChanger[k] = deeds;
                }
            }
            return changed;
        }

        /** What state() and drawn() tell alike. */
        int view(int what) {
            if (what < 0 || what >= 110) {
                return NO_SUCH;
            }
            int k = what % 10;
            switch (what / 10) {
                case 0:
                    return viewAll(k);
                case 1:
                    return value[k];
                case 2:
                    return stamp[k];
                case 3:
                    return NO_SUCH;
                case 4:
                    return k <= nodeOf(KEYS - 1) ? version[k] : NO_SUCH;
                default:
                    return k < workers ? viewWorker(k, what / 10) : NO_SUCH;
            }
        }

        private int viewAll(int what) {
            switch (what) {
                case 0:
                    return epoch;
                case 1:
                    return durableWith(0);
                case 2:
                    return lineCount;
                case 3:
                    return refusals();
                case 4:
                    return keysThere(value);
                default:
                    return NO_SUCH;
            }
        }

        private int viewWorker(int w, int row) {
            switch (row) {
                case 5:
                    return staff[w].task;
                case 6:
                    return staff[w].stepsDone;
                case 7:
                    return staff[w].sum;
                case 8:
                    return staff[w].lastStamp;
                case 9:
                    return linesOf(w, false);
                default:
                    return linesOf(w, true);
            }
        }

        private int linesOf(int w, boolean onDiskOnly) {
            int many = 0;
            for (int i = 0; i < lineCount; i++) {
                if (lines[i].worker == w && !lines[i].gone && (lines[i].onDisk || !onDiskOnly)) {
                    many++;
                }
            }
            return many;
        }

        private int refusals() {
            int many = 0;
            for (int k = 0; k < deeds; k++) {
                if (verdict[k] == STALE || verdict[k] == PHANTOM) {
                    many++;
                }
            }
            return many;
        }

        int often() {
            int best = NONE;
            int most = 0;
            for (int t = 0; t < book.size; t++) {
                int many = 0;
                for (int i = 0; i < lineCount; i++) {
                    if (lines[i].task == t) {
                        many++;
                    }
                }
                if (many > most) {
                    most = many;
                    best = t;
                }
            }
            return best;
        }

        int hot() {
            int best = NONE;
            int most = 0;
            for (int key = 0; key < KEYS; key++) {
                int many = 0;
                for (int k = 0; k < deeds; k++) {
                    if (verdict[k] == STALE && thing[k] == key) {
                        many++;
                    }
                }
                if (many > most) {
                    most = many;
                    best = key;
                }
            }
            return best;
        }

        int topStamp() {
            int top = 0;
            for (int k = 0; k < KEYS; k++) {
                top = Math.max(top, stamp[k]);
            }
            return top;
        }

        /** One row of two tasks: the later worker has done some steps when the earlier one commits. Its verdict. */
        int weaveOnce(int a, int b, int earlier, int stepsOfLater) {
            start(store, book);
            workers = 2;
            int later = 1 - earlier;
            perform(DEED_BEGIN, 0, a);
            perform(DEED_BEGIN, 1, b);
            for (int i = 0; i < STEPS_MOST; i++) {
                perform(DEED_STEP, earlier, NONE);
            }
            for (int i = 0; i < stepsOfLater; i++) {
                perform(DEED_STEP, later, NONE);
            }
            perform(DEED_COMMIT, earlier, NONE);
            for (int i = 0; i < STEPS_MOST; i++) {
                perform(DEED_STEP, later, NONE);
            }
            perform(DEED_COMMIT, later, NONE);
            return deeds > 0 ? verdict[deeds - 1] : NO_COMMIT;
        }
    }

    /** The COMMITS that no crash took away, in the order in which they were made, and their serial orders. */
    private static final class Commits {
        final Line[] kept = new Line[LINES_MOST];
        int size;
        private final int[][] row = new int[COMMITS_ORDERED + 1][KEYS];
        private final int[] order = new int[COMMITS_ORDERED];
        final int[] firstRow = new int[COMMITS_ORDERED];
        int found;

        void gather(Machine machine) {
            size = 0;
            for (int i = 0; i < machine.lineCount; i++) {
                if (!machine.lines[i].gone) {
                    kept[size] = machine.lines[i];
                    size++;
                }
            }
        }

        int hangs(int k) {
            Line mine = kept[k];
            int bits = 0;
            for (int j = 0; j < k; j++) {
                boolean byKey = (kept[j].wrote & (mine.read | mine.wrote)) != 0;
                if (byKey || (kept[j].changedNodes & mine.guarded) != 0) {
                    bits |= 1 << j;
                }
            }
            return bits;
        }

        /** Tries all rows, depth by depth, so that rows with the same beginning share it. */
        void tryOrders(Machine machine) {
            found = 0;
            copyKeys(machine.store.value, row[0]);
            extend(machine, 0, 0);
        }

        private void extend(Machine machine, int depth, int used) {
            if (depth >= size || depth >= COMMITS_ORDERED) {
                noteRow(row[depth], machine.value);
                return;
            }
            for (int c = 0; c < size; c++) {
                if (!hasBit(used, c)) {
                    copyKeys(row[depth], row[depth + 1]);
                    machine.book.runAlone(kept[c].task, row[depth + 1]);
                    order[depth] = c;
                    extend(machine, depth + 1, used | 1 << c);
                }
            }
        }

        private void noteRow(int[] reached, int[] due) {
            if (!sameKeys(reached, due)) {
                return;
            }
            if (found == 0) {
                System.arraycopy(order, 0, firstRow, 0, COMMITS_ORDERED);
            }
            found++;
        }
    }

    /** The sets of workers that fit a diary, rising, each with the keys that it would leave. */
    private static final class Sets {
        final int[] member = new int[SETS_MOST];
        private final int[][] left = new int[SETS_MOST][KEYS];
        private final int[] stamps = new int[KEYS];
        int size;

        void gather(Machine machine, Diary diary) {
            size = 0;
            for (int set = 0; set < 1 << machine.workers && size < SETS_MOST; set++) {
                machine.recover(set, left[size], stamps);
                if (diary.agrees(left[size])) {
                    member[size] = set;
                    size++;
                }
            }
        }

        /** The key whose most common value is shared by the fewest sets; NONE if nothing fits. */
        int bestQuestion() {
            int best = NONE;
            int least = SETS_MOST + 1;
            for (int k = 0; k < KEYS && size > 0; k++) {
                int greatest = greatestShare(k);
                if (greatest < least) {
                    least = greatest;
                    best = k;
                }
            }
            return best;
        }

        private int greatestShare(int key) {
            int greatest = 0;
            for (int i = 0; i < size; i++) {
                int share = 0;
                for (int j = 0; j < size; j++) {
                    if (left[i][key] == left[j][key]) {
                        share++;
                    }
                }
                greatest = Math.max(greatest, share);
            }
            return greatest;
        }

        int fewest() {
            int least = NONE;
            for (int i = 0; i < size; i++) {
                int workers = Integer.bitCount(member[i]);
                if (least == NONE || workers < least) {
                    least = workers;
                }
            }
            return least;
        }

        int sure(int w) {
            int with = 0;
            for (int i = 0; i < size; i++) {
                if (hasBit(member[i], w)) {
                    with++;
                }
            }
            if (size == 0 || with > 0 && with < size) {
                return NONE;
            }
            return with > 0 ? 1 : 0;
        }
    }
}
