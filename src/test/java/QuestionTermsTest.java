/** Terms 3 to 5, sentence by sentence: refusals, serial orders, what hangs on what, diaries, draws, tasks as told, weaves. */
public final class QuestionTermsTest extends Answers {
    private static final int[] SEEDS = {0, 1, -1, 12345, 1103515245, 65535, 65536, Integer.MAX_VALUE, Integer.MIN_VALUE, -1154391826, 740620975};

    private QuestionTermsTest() {
    }

    public static void main(String[] args) {
        changedByWhom();
        commitsThatStay();
        serialAtMostSix();
        serialRows();
        hangs();
        losesAndLeft();
        setsThatFit();
        sureAndFewest();
        asks();
        drawnAsDeeds();
        drawnWithoutTasks();
        drawnEpochs();
        readsAndWrites();
        freeAndBlinds();
        aloneOnKeysAsTold();
        swaps();
        weaveRows();
        weaveVerdicts();
        risks();
        weavesInTurns();
        oftenAndHot();
        wasted();
        crashesGoneTop();
        finish("QuestionTermsTest");
    }

    private static String run(int worker, int task, int steps) {
        return "begin " + worker + " " + task + ";" + ("step " + worker + ";").repeat(steps) + "commit " + worker + ";";
    }

    private static void dueSerial(EpochEngine x, int... whatAndWant) {
        for (int i = 0; i < whatAndWant.length; i += 2) {
            due("serial(0, 0, 0, " + whatAndWant[i] + ")", x.serial(0, 0, 0, whatAndWant[i]), whatAndWant[i + 1]);
        }
    }

    private static void dueAfter(EpochEngine x, int... want) {
        for (int what = 0; what < want.length; what++) {
            due("after(0, 0, 0, " + what + ")", x.after(0, 0, 0, what), want[what]);
        }
    }

    private static void changedByWhom() {
        under("term 3: WHY: the last commit ahead that WROTE the KEY (whatever VALUE)");
        String tasks = "task;read 0;task;put 0 5;task;read 0;task;add 0 1;";
        EpochEngine x = told("workers 4;key 0 5;", tasks, "begin 0 0;step 0;" + run(1, 1, 1) + run(1, 1, 1) + run(2, 2, 1) + "commit 0;");
        dueWhy(x, 11, 2, 0, 7, NONE);
        under("term 3: WHY: a commit that was REFUSED has changed nothing");
        EpochEngine y = told("workers 4;key 0 5;", tasks, "begin 0 0;step 0;begin 3 3;step 3;" + run(1, 1, 1) + "commit 3;commit 0;");
        dueWhy(y, 7, 2, 0, 6, NONE);
        dueWhy(y, 8, 2, 0, 6, NONE);
        under("term 3: WHY: the last commit by which VERSION of the NODE was more");
        String others = "task;read 0;task;put 1 5;task;put 1 6;task;cut 1;";
        EpochEngine z = told("", others, "begin 0 0;step 0;" + run(1, 1, 1) + run(1, 2, 1) + "commit 0;");
        dueWhy(z, 8, 3, 0, 4, NONE);
        EpochEngine v = told("", others, "begin 0 0;step 0;" + run(1, 1, 1) + run(1, 3, 1) + run(1, 3, 1) + "commit 0;");
        dueWhy(v, 11, 3, 0, 7, NONE);
        under("term 3: WHY behind a crash: by a commit behind it");
        EpochEngine w = told("workers 2;key 0 5;", tasks, run(1, 1, 1) + "crash;begin 0 0;step 0;" + run(1, 1, 1) + "commit 0;");
        dueWhy(w, 2, 1, NONE, NONE, 101);
        dueWhy(w, 9, 2, 0, 8, NONE);
    }

    private static void commitsThatStay() {
        under("term 3: COMMITS: those that were made, of which no crash took away the line, in order");
        EpochEngine x = told("workers 1;", "task;put 0 1;task;put 1 1;task;put 2 1;", run(0, 0, 1) + "epoch;" + run(0, 1, 1) + "flush 0;crash;" + run(0, 2, 1));
        dueSerial(x, 0, 2, 1, 2, 10, 0, 11, 2, 12, NONE, 20, 101, 21, 201, 22, NONE, 50, 0, 51, 1, 52, NONE);
        EpochEngine y = told("", "task;", run(0, 0, 0).repeat(3) + "crash;");
        dueSerial(y, 0, 0, 1, 1, 10, NONE, 20, NONE, 30, NONE, 50, NONE);
        under("term 3: COMMITS: no REFUSED one, none behind STOP");
        EpochEngine z = told("key 0 1;", "task;read 0;task;put 0 1;", "begin 0 0;step 0;" + run(1, 1, 1) + "commit 0;step 0;" + run(1, 1, 1));
        dueSerial(z, 0, 1, 10, 1, 11, NONE);
    }

    private static void serialAtMostSix() {
        under("term 3: SERIAL: of at most 6 COMMITS (else none)");
        int rows = 1;
        for (int n = 0; n <= 20; n++) {
            EpochEngine x = told("", "task;", run(0, 0, 0).repeat(n));
            dueSerial(x, 0, n, 1, n > 6 ? NONE : rows);
            for (int k = 0; k < 10; k++) {
                dueSerial(x, 10 + k, k < n ? 0 : NONE, 20 + k, k < n ? 101 + k : NONE, 30 + k, k < n ? 0 : NONE, 50 + k, k < n && n <= 6 ? k : NONE);
            }
            rows *= n + 1;
        }
    }

    private static void serialRows() {
        under("term 3: SERIAL: rows by which KEYS that there are and VALUES are as by the STORE");
        String tasks = "task;add 0 1;task;put 0 1;task;cut 0;task;read 0;task;put 1 0;";
        int[][] cases = {{1, 0, 1}, {0, 0, 2}, {0, 1, 1}, {1, 1, 2}, {2, 0, 1}, {0, 2, 1}, {2, 2, 2}, {3, 1, 2}, {4, 1, 2}};
        for (int[] row : cases) {
            EpochEngine x = told("key 0 5;", tasks, run(0, row[0], 1) + run(1, row[1], 1));
            due("SERIAL of " + row[0] + ", " + row[1], x.serial(0, 0, 0, 1), row[2]);
            dueSerial(x, 50, 0, 51, 1);
        }
        EpochEngine y = told("key 0 5;", tasks, run(0, 0, 1) + run(1, 1, 1) + run(0, 0, 1));
        // 0 1 2 and 2 1 0 lead to 2, all others to 3, or to 1.
        dueSerial(y, 1, 2, 50, 0, 51, 1, 52, 2);
        under("term 3: SERIAL: a KEY that is not there is another than one of VALUE 0");
        EpochEngine z = told("", "task;put 0 0;task;cut 0;", run(0, 0, 1) + run(1, 1, 1));
        dueSerial(z, 1, 1);
        under("term 3: SERIAL: each begins with KEYS as told");
        EpochEngine v = told("key 0 5;", "task;read 0;save 1;task;put 0 7;", run(0, 0, 2) + run(1, 1, 1));
        dueSerial(v, 1, 1, 50, 0, 51, 1);
    }

    private static void hangs() {
        under("term 3: HANGS: COMMITS ahead of it whose line WROTE a KEY that it READ or WROTE");
        String tasks = "task;put 0 1;task;read 0;task;put 1 1;task;cut 0;task;scan 0 1;task;";
        EpochEngine x = told("key 0 5;key 1 5;", tasks, run(0, 0, 1) + run(1, 1, 1) + run(0, 2, 1) + run(1, 0, 1) + run(0, 4, 1) + run(1, 3, 1) + run(0, 5, 0) + run(1, 1, 1));
        // The last reads KEY 0 as not there: it is GUARDED, and the commit that cut it changed the NODE.
        int[] want = {0, 1, 0, 1, 1 | 4 | 8, 1 | 8, 0, 32};
        for (int k = 0; k < want.length; k++) {
            dueSerial(x, 30 + k, want[k]);
        }
        dueSerial(x, 38, NONE);
        under("term 3: HANGS: .. or changed a NODE that it GUARDED");
        EpochEngine y = told("", "task;put 4 1;task;read 5;task;put 4 2;task;put 1 1;",
                run(0, 0, 1) + run(0, 1, 1) + run(0, 2, 1) + run(1, 1, 1) + run(1, 3, 1));
        int[] guarded = {0, 1, 1, 1, 0};
        for (int k = 0; k < guarded.length; k++) {
            dueSerial(y, 30 + k, guarded[k]);
        }
        EpochEngine u = told("", "task;put 0 1;put 4 1;put 9 1;task;read 1;task;read 5;task;read 8;task;read 2;",
                run(0, 0, 3) + run(0, 1, 1) + run(0, 2, 1) + run(1, 3, 1) + run(1, 4, 1));
        dueSerial(u, 30, 0, 31, 1, 32, 1, 33, 1, 34, 0);
        under("term 3: HANGS: none on a COMMIT that a crash took away");
        EpochEngine z = told("key 0 5;", tasks, run(0, 0, 1) + "crash;" + run(0, 1, 1) + run(0, 0, 1) + run(0, 1, 1));
        dueSerial(z, 0, 3, 30, 0, 31, 0, 32, 2);
        under("term 3: HANGS: not on what READ a KEY that it WROTE");
        EpochEngine v = told("key 0 5;", tasks, run(0, 1, 1) + run(1, 0, 1));
        dueSerial(v, 31, 0);
    }

    private static void losesAndLeft() {
        under("term 3: LOSES: lines a crash would take away now; LEFT: VALUES behind such a crash");
        EpochEngine x = told("key 0 5;key 1 6;", "task;put 0 1;cut 1;task;put 2 2;", run(0, 0, 2) + run(1, 1, 1) + "epoch;flush 0;flush 1;" + run(1, 1, 1) + "crash;");
        int[] loses = {0, 0, 0, 0, 1, 1, 1, 2, 2, 2, 0, 0, 0, 1, 0};
        for (int n = 0; n < loses.length; n++) {
            dueState(x, n, 5, loses[n]);
            dueState(x, n, 30, n < 10 ? 5 : 1);
            dueState(x, n, 31, n < 10 ? 6 : NONE);
            dueState(x, n, 32, n < 10 ? NONE : 2);
        }
        under("term 3: asking for LEFT is no crash");
        dueState(x, 9, 0, 2);
        dueState(x, 9, 30, 5);
        dueState(x, 9, 10, 1);
        dueState(x, 9, 90, 1);
    }

    /** Three WORKERS with DONE 0, 1, 2 in EPOCH 4; WORKER 0 wrote KEYS 5 and 7 in EPOCHS 1, 2, 3, and KEY 2 in EPOCH 3. */
    private static EpochEngine threeDone(String... diaries) {
        EpochEngine x = told("workers 3;", "task;put 5 1;put 7 1;task;put 5 2;put 7 2;task;put 5 3;put 7 3;put 2 1;",
                run(0, 0, 2) + "epoch;flush 1;" + run(0, 1, 2) + "epoch;flush 2;" + run(0, 2, 3) + "epoch;");
        for (int i = 0; i < diaries.length; i++) {
            due("text of a DIARY", Teller.tell(x, 3, NONE, diaries[i]), i);
        }
        return x;
    }

    private static void dueFits(EpochEngine x, int diary, int ask, int fewest, int... sets) {
        due("how many FIT", x.fits(0, 0, 0, diary, 0), sets.length);
        due("ASK", x.fits(0, 0, 0, diary, 1), ask);
        due("FEWEST", x.fits(0, 0, 0, diary, 2), fewest);
        for (int k = 0; k <= 16; k++) {
            due("set " + k, x.fits(0, 0, 0, diary, 10 + k), k < sets.length ? sets[k] : NO_SUCH);
        }
    }

    private static void setsThatFit() {
        under("term 4: sets that FIT: all FACTS are so behind a crash, rising, from the empty one on");
        EpochEngine x = threeDone("has 5 1;", "has 5 2;");
        dueFits(x, 0, 0, 1, 1, 5);
        dueFits(x, 1, 0, 2, 3);
        EpochEngine y = threeDone("has 5 3;lacks 0;", "lacks 5;");
        dueFits(y, 0, 0, 3, 7);
        dueFits(y, 1, 0, 0, 0, 2, 4, 6);
        under("term 4: FACTS of which one is not so: nothing FITS");
        EpochEngine z = threeDone("has 5 4;", "has 5 1;lacks 5;");
        dueFits(z, 0, NONE, NONE);
        dueFits(z, 1, NONE, NONE);
        EpochEngine v = threeDone("has 5 1;has 5 2;", "has 5 1;has 7 1;has 5 1;lacks 2;");
        dueFits(v, 0, NONE, NONE);
        dueFits(v, 1, 0, 1, 1, 5);
        under("term 4: without FACTS all sets of WORKERS FIT");
        for (int workers = 1; workers <= 4; workers++) {
            EpochEngine u = told("workers " + workers + ";", "", "");
            u.text(3, NONE);
            int[] all = new int[1 << workers];
            for (int set = 0; set < all.length; set++) {
                all[set] = set;
            }
            dueFits(u, 0, 0, 0, all);
        }
        under("term 4: lines of this EPOCH are lost, whoever is flushed");
        EpochEngine w = told("workers 1;", "task;put 0 1;", run(0, 0, 1));
        Teller.tell(w, 3, NONE, "has 0 1;");
        dueFits(w, 0, NONE, NONE);
        under("term 4: behind all DEEDS up to STOP");
        EpochEngine s = told("workers 1;", "task;put 0 1;", run(0, 0, 1) + "epoch;step 0;crash;");
        Teller.tell(s, 3, NONE, "has 0 1;");
        dueFits(s, 0, 0, 1, 1);
    }

    private static void sureAndFewest() {
        under("term 4: SURE: 1, if it is in all that FIT, 0, if in none; NONE: neither, nothing FITS, no such WORKER");
        String[] diaries = {"has 5 1;", "has 5 2;", "has 5 3;", "lacks 5;", "has 5 4;", ""};
        int[][] sure = {{1, 0, NONE, NONE}, {1, 1, 0, NONE}, {1, 1, 1, NONE}, {0, NONE, NONE, NONE}, {NONE, NONE, NONE, NONE}, {NONE, NONE, NONE, NONE}};
        for (int i = 0; i < diaries.length; i++) {
            EpochEngine x = threeDone(diaries[i]);
            for (int w = 0; w < 4; w++) {
                due("SURE of " + w + " by " + diaries[i], x.fits(0, 0, 0, 0, 3 + w), sure[i][w]);
            }
        }
    }

    private static void asks() {
        under("term 4: ASK: the greatest number of the same VALUE is least, of several the least KEY");
        EpochEngine x = threeDone("");
        dueFits(x, 0, 5, 0, 0, 1, 2, 3, 4, 5, 6, 7);
        under("term 4: ASK: not being there is a VALUE, too");
        EpochEngine y = told("workers 1;key 3 9;", "task;cut 3;cut 9;put 6 0;", run(0, 0, 3) + "epoch;");
        y.text(3, NONE);
        dueFits(y, 0, 3, 0, 0, 1);
        EpochEngine z = told("workers 1;", "task;cut 3;cut 9;put 6 0;", run(0, 0, 3) + "epoch;");
        z.text(3, NONE);
        dueFits(z, 0, 6, 0, 0, 1);
        under("term 4: ASK: KEY 9 may be the one");
        EpochEngine v = told("workers 1;", "task;put 9 0;", run(0, 0, 1) + "epoch;");
        v.text(3, NONE);
        dueFits(v, 0, 9, 0, 0, 1);
    }

    private static int x;

    private static int draw(int n) {
        x = (int) (((x & 0xffffffffL) * 1103515245L + 12345L) & 0xffffffffL);
        return (int) ((x & 0xffffffffL) / 65536L % n);
    }

    /** The deed of one draw as a line of a schedule; empty if none is drawn. */
    private static String drawnLine(int workers, int tasks) {
        int lot = draw(12);
        if (lot <= 2) {
            if (tasks == 0) {
                return "";
            }
            int w = draw(workers);
            return "begin " + w + " " + draw(tasks) + ";";
        }
        if (lot <= 9) {
            return (lot <= 6 ? "step " : lot <= 8 ? "commit " : "flush ") + draw(workers) + ";";
        }
        if (lot == 10) {
            return "epoch;";
        }
        return draw(4) == 0 ? "crash;" : "";
    }

    /** Draws as a schedule of those deeds that may be: what drawn() answers is what state() answers of it. */
    private static void drawnAsDeeds() {
        String[] stores = {"workers 4;span 1;key 0 1;key 5 9;", "workers 1;key 2 3;", "", "workers 3;span 5;key 9 9;"};
        String[] books = {"task;add 0 1;task;scan 0 9;save 3;task;cut 5;task;", "task;put 1 1;", "", "task;task;read 2;add 2 9;task;cut 9;put 8 8;"};
        for (int i = 0; i < stores.length; i++) {
            for (int seed : SEEDS) {
                under("term 4: DRAWN by SEED " + seed + " (of 32 bits) at '" + stores[i] + "' of '" + books[i] + "'");
                dueDrawn(stores[i], books[i], seed);
            }
        }
    }

    private static void dueDrawn(String store, String tasks, int seed) {
        EpochEngine first = told(store, tasks);
        int workers = first.store(0, 1);
        int many = first.task(0, NONE, 0);
        String schedule = "";
        int deeds = 0;
        x = seed;
        for (int n = 0; n <= 60 && deeds <= 40; n++) {
            if (n > 0) {
                String line = drawnLine(workers, many);
                EpochEngine probe = told(store, tasks);
                boolean may = deeds < 40 && !line.isEmpty() && Teller.tell(probe, 2, NONE, schedule + line) == 0 && probe.stop(0, 0, 0) == deeds + 1;
                if (deeds == 40 && !line.isEmpty()) {
                    return;
                }
                schedule += may ? line : "";
                deeds += may ? 1 : 0;
            }
            EpochEngine y = told(store, tasks, schedule);
            for (int what = 0; what < 110; what++) {
                boolean asked = what != 5 && (what < 30 || what > 39);
                due("drawn(0, 0, " + seed + ", " + n + ", " + what + ")", y.drawn(0, 0, seed, n, what), asked ? y.state(0, 0, 0, deeds, what) : NO_SUCH);
            }
        }
    }

    private static void drawnWithoutTasks() {
        under("term 4: DRAWN without TASKS: 0 to 2 draw no more, nothing is done");
        EpochEngine y = told("workers 4;key 4 4;", "");
        for (int seed : SEEDS) {
            int epoch = 1;
            x = seed;
            for (int n = 0; n < 30; n++) {
                due("EPOCH of seed " + seed + " behind " + n, y.drawn(0, 0, seed, n, 0), epoch);
                String line = drawnLine(4, 0);
                // Nobody is flushed for long: a crash leads back to what DURABLE has, which is asked for here.
                epoch = line.equals("epoch;") ? epoch + 1 : line.equals("crash;") ? y.drawn(0, 0, seed, n, 1) + 1 : epoch;
            }
            due("COMMITTED", y.drawn(0, 0, seed, 60, 2), 0);
            due("KEYS", y.drawn(0, 0, seed, 60, 4), 16);
            y = told("workers 4;key 4 4;", "");
        }
    }

    private static void drawnEpochs() {
        under("term 4: DRAWN, 0 to 60 times: 22 epochs are the most of any SEED, so 50 is out of reach");
        EpochEngine y = told("", "");
        int most = 0;
        for (int n = 0; n <= 60; n++) {
            most = Math.max(most, y.drawn(0, 0, -1154391826, n, 0));
        }
        due("the EPOCH stays below 50", most < 50 && most > 1, true);
    }

    private static void dueKeys(String steps, int reads, int writes) {
        EpochEngine y = told("", "task;" + steps);
        due("READS of '" + steps + "'", y.keys(0, 0, 0), reads);
        due("WRITES of '" + steps + "'", y.keys(0, 0, 1), writes);
    }

    private static void readsAndWrites() {
        under("term 5: READS, WRITES: KEYS that any of its STEPS names to LOOK at (scan: all between), to WRITE");
        dueKeys("", 0, 0);
        for (int k = 0; k < 10; k++) {
            dueKeys("read " + k + ";", 1 << k, 0);
            dueKeys("cut " + k + ";", 0, 1 << k);
            dueKeys("save " + k + ";", 0, 1 << k);
            dueKeys("put " + k + " 0;", 0, 1 << k);
            dueKeys("add " + k + " 0;", 1 << k, 1 << k);
            for (int to = k; to < 10; to++) {
                dueKeys("scan " + k + " " + to + ";", (1 << to + 1) - (1 << k), 0);
            }
        }
        under("term 5: READS as told, also of what it WROTE itself");
        dueKeys("put 0 1;read 0;cut 1;scan 1 2;", 7, 3);
    }

    private static void dueFree(String tasks, int free, int blinds) {
        EpochEngine y = told("", tasks);
        due("FREE of '" + tasks + "'", y.free(0, 0), free);
        due("BLINDS of '" + tasks + "'", y.free(0, 1), blinds);
    }

    private static void freeAndBlinds() {
        under("term 5: FREE: couples of TASKS (each with others) none of which WRITES what the other one READS or WRITES");
        for (int n = 0; n <= 7; n++) {
            dueFree("task;".repeat(n), n * (n - 1) / 2, 0);
            dueFree("task;put 0 0;".repeat(n), 0, (1 << n) - 1);
            dueFree("task;read 0;".repeat(n), n * (n - 1) / 2, 0);
        }
        dueFree("task;read 0;task;put 0 0;", 0, 2);
        dueFree("task;put 0 0;task;read 0;", 0, 1);
        dueFree("task;read 0;task;put 1 0;", 1, 2);
        dueFree("task;scan 2 4;task;cut 5;task;cut 4;task;cut 2;task;cut 1;", 1 + 1 + 6, 30);
        under("term 5: BLINDS: TASKS that WRITE, but LOOK at nothing");
        dueFree("task;add 0 0;task;save 1;task;cut 2;task;put 3 0;task;put 4 0;read 4;task;read 5;task;", 21, 2 | 4 | 8);
    }

    private static void aloneOnKeysAsTold() {
        under("term 5: ALONE: run alone on KEYS as told, whatever was run before");
        EpochEngine y = told("key 0 99;key 1 1;", "task;add 0 1;task;read 0;read 1;save 9;task;cut 0;cut 5;task;scan 0 9;save 0;scan 0 9;task;");
        int[][] rows = {{0, 99, 0, 1, NONE}, {1, 0, 99, 1, 0}, {2, 0, NONE, 1, NONE}, {3, 1, 0, 1, NONE}, {4, 0, 99, 1, NONE}};
        for (int again = 0; again < 2; again++) {
            for (int[] row : rows) {
                due("SUM of TASK " + row[0], y.alone(0, 0, row[0], 0), row[1]);
                due("KEY 0 by TASK " + row[0], y.alone(0, 0, row[0], 10), row[2]);
                due("KEY 1 by TASK " + row[0], y.alone(0, 0, row[0], 11), row[3]);
                due("KEY 9 by TASK " + row[0], y.alone(0, 0, row[0], 19), row[4]);
            }
        }
        due("the STORE is as told", y.store(0, 10), 99);
        under("term 5: ALONE: SUM, remainder by 100, of a KEY that is not there, of VALUE 0: 0");
        String[] steps = {"read 7;", "read 2;", "add 7 3;", "add 2 3;", "add 0 0;add 1 0;", "read 0;read 1;", "scan 0 1;", "scan 1 3;", "scan 3 3;",
            "scan 4 9;", "add 0 99;add 0 99;", "cut 0;read 0;", "cut 0;scan 0 9;", "cut 0;add 0 7;", "put 5 9;scan 4 5;"};
        int[] sums = {0, 0, 0, 0, 0, 0, 0, 45, 5, 0, 19, 0, 45, 0, 9};
        for (int i = 0; i < steps.length; i++) {
            due("SUM of " + steps[i], told("key 0 60;key 1 40;key 2 0;key 3 5;", "task;" + steps[i]).alone(0, 0, 0, 0), sums[i]);
        }
    }

    private static void swaps() {
        under("term 5: SWAPS: couples of TASKS that lead to the same, whichever is first");
        for (int n = 0; n <= 7; n++) {
            due("SWAPS of " + n, told("", "task;add 0 7;".repeat(n)).swaps(0, 0), n * (n - 1) / 2);
        }
        String[] pairs = {"put 0 1;task;put 0 1;", "put 0 1;task;put 0 2;", "put 0 1;task;add 0 1;", "cut 0;task;put 0 1;", "cut 0;task;cut 0;",
            "read 0;task;put 0 9;", "read 0;save 1;task;put 0 9;", "read 0;save 1;task;put 0 5;", "put 0 0;task;cut 0;", "add 0 99;task;add 0 1;"};
        int[] same = {1, 0, 0, 0, 1, 1, 0, 1, 0, 1};
        for (int i = 0; i < pairs.length; i++) {
            due("SWAPS of " + pairs[i], told("key 0 5;", "task;" + pairs[i]).swaps(0, 0), same[i]);
        }
        under("term 5: SWAPS on KEYS as told: at another STORE it may be otherwise");
        due("SWAPS, KEY 0 being 9", told("key 0 9;", "task;read 0;save 1;task;put 0 9;").swaps(0, 0), 1);
        due("SWAPS, KEY 0 being 8", told("key 0 8;", "task;read 0;save 1;task;put 0 9;").swaps(0, 0), 0);
    }

    private static void dueWeave(EpochEngine y, int a, int b, int... want) {
        for (int what = 0; what < want.length; what++) {
            due("weave(0, 0, " + a + ", " + b + ", " + what + ")", y.weave(0, 0, a, b, what), want[what]);
        }
    }

    private static void weaveRows() {
        under("term 5: WEAVES: all rows of their STEPS, each one's in order (without STEPS: 1)");
        int[] rows = {1, 2, 6, 20, 70, 252, 924};
        for (int a = 0; a <= 6; a++) {
            for (int b = 0; b <= 6; b++) {
                EpochEngine y = told("", "task;" + "read 0;".repeat(a) + "task;" + "cut 9;".repeat(b));
                int want = 1;
                for (int i = 1; i <= b; i++) {
                    want = want * (a + i) / i;
                }
                dueWeave(y, 0, 1, want, want, 0, 0, 0);
                due("rows with itself", y.weave(0, 0, 0, 0, 0), rows[a]);
            }
        }
    }

    private static void weaveVerdicts() {
        under("term 5: WEAVES: in how many both COMMIT, the first, the second is REFUSED, by a PHANTOM");
        EpochEngine y = told("workers 1;key 0 1;", "task;read 0;read 0;task;put 0 2;task;read 5;read 5;task;put 5 1;task;task;put 4 1;put 5 1;task;cut 0;");
        dueWeave(y, 0, 1, 3, 2, 1, 0, 0);
        dueWeave(y, 1, 0, 3, 2, 0, 1, 0);
        dueWeave(y, 2, 3, 3, 2, 1, 0, 1);
        dueWeave(y, 3, 2, 3, 2, 0, 1, 1);
        dueWeave(y, 0, 6, 3, 2, 1, 0, 0);
        dueWeave(y, 2, 5, 6, 4, 2, 0, 2);
        under("term 5: WEAVES: rows in which it is REFUSED, wherever the other one's commit lies");
        EpochEngine v = told("key 0 1;", "task;read 0;read 0;read 0;task;put 0 2;task;read 9;put 0 2;task;read 5;read 5;read 5;task;read 9;put 4 1;");
        dueWeave(v, 0, 1, 4, 2, 2, 0, 0);
        dueWeave(v, 1, 0, 4, 2, 0, 2, 0);
        dueWeave(v, 0, 2, 10, 5, 5, 0, 0);
        dueWeave(v, 2, 0, 10, 5, 0, 5, 0);
        dueWeave(v, 3, 4, 10, 5, 5, 0, 5);
        dueWeave(v, 4, 3, 10, 5, 0, 5, 5);
        under("term 5: WEAVES: each commits directly behind its last STEP");
        dueWeave(y, 1, 1, 2, 2, 0, 0, 0);
        EpochEngine z = told("key 0 1;", "task;add 0 1;task;read 1;add 0 1;");
        dueWeave(z, 0, 0, 2, 2, 0, 0, 0);
        dueWeave(z, 1, 1, 6, 6, 0, 0, 0);
        under("term 5: WEAVES: one without STEPS commits ahead of all of the other one's");
        dueWeave(y, 4, 0, 1, 1, 0, 0, 0);
        dueWeave(y, 0, 4, 1, 1, 0, 0, 0);
        dueWeave(y, 4, 4, 1, 1, 0, 0, 0);
    }

    private static void risks() {
        under("term 5: RISK: TASKS by weaving with which, it being the first, it can be REFUSED, itself too");
        EpochEngine y = told("key 0 1;", "task;read 0;read 0;task;put 0 2;task;read 5;read 5;task;put 4 1;task;add 0 1;read 1;task;task;scan 0 9;cut 0;");
        int[] want = {1 << 1 | 1 << 4 | 1 << 6, 0, 1 << 3, 0, 1 << 1 | 1 << 4 | 1 << 6, 0, 1 << 1 | 1 << 3 | 1 << 4 | 1 << 6};
        for (int t = 0; t < want.length; t++) {
            due("RISK of " + t, y.risk(0, 0, t), want[t]);
        }
    }

    /** STORES and TASKS in turns: what was asked of one is nothing to the other. */
    private static void weavesInTurns() {
        under("term 5: WEAVES, RISK at the STORE and of the TASKS that are named, whatever was asked before");
        EpochEngine y = told("key 0 1;", "task;read 0;read 0;task;cut 0;", "begin 0 0;");
        due("another STORE", Teller.tell(y, 0, NONE, ""), 1);
        due("other TASKS", Teller.tell(y, 1, NONE, "task;task;put 1 1;"), 1);
        for (int again = 0; again < 2; again++) {
            due("weave(0, 0, 0, 1, 2)", y.weave(0, 0, 0, 1, 2), 1);
            due("weave(1, 0, 0, 1, 2)", y.weave(1, 0, 0, 1, 2), 0);
            due("weave(0, 1, 0, 1, 0)", y.weave(0, 1, 0, 1, 0), 1);
            due("risk(0, 0, 0)", y.risk(0, 0, 0), 2);
            due("risk(1, 0, 0)", y.risk(1, 0, 0), 0);
            due("state(1, 1, 0, 1, 4)", y.state(1, 1, 0, 1, 4), 0);
            due("risk(0, 0, 0)", y.risk(0, 0, 0), 2);
            due("drawn(1, 1, 0, 0, 4)", y.drawn(1, 1, 0, 0, 4), 0);
            due("weave(0, 0, 0, 1, 0)", y.weave(0, 0, 0, 1, 0), 3);
        }
    }

    private static void oftenAndHot() {
        under("term 5: OFTEN, of several the least (none: none)");
        String tasks = "task;task;read 5;task;put 5 1;task;read 4;task;put 4 1;";
        dueAfter(told("", tasks, ""), NONE, NONE, 0, 0, 0, 0);
        dueAfter(told("", tasks, "begin 0 0;"), NONE, NONE);
        dueAfter(told("", tasks, run(0, 0, 0)), 0, NONE);
        dueAfter(told("", tasks, run(0, 2, 1) + run(0, 0, 0)), 0, NONE);
        dueAfter(told("", tasks, run(0, 2, 1) + run(0, 0, 0) + run(0, 2, 1)), 2, NONE);
        under("term 5: OFTEN: COMMITTED, not REFUSED");
        String refused4 = "begin 0 3;step 0;" + run(1, 4, 1) + "commit 0;";
        String refused5 = "begin 0 1;step 0;" + run(1, 2, 1) + "commit 0;";
        dueAfter(told("key 4 1;key 5 1;", tasks, refused4), 4, 4, 1);
        under("term 5: HOT, of several the least (none: none)");
        dueAfter(told("key 4 1;key 5 1;", tasks, refused5 + refused4), 2, 4, 2);
        dueAfter(told("key 4 1;key 5 1;", tasks, refused5 + refused4 + refused5), 2, 5, 3);
        under("term 5: HOT: a PHANTOM makes no KEY STALE");
        dueAfter(told("", tasks, "begin 0 1;step 0;" + run(1, 2, 1) + "commit 0;"), 2, NONE, 1);
    }

    private static void wasted() {
        under("term 5: WASTED: STEPS done of TASKS that were REFUSED, or quit, or worked at as a crash came");
        String tasks = "task;read 0;read 0;read 0;task;put 0 1;";
        int[] want = {0, 1, 2, 3};
        for (int n = 0; n < want.length; n++) {
            dueAfter(told("key 0 1;", tasks, "begin 0 0;" + "step 0;".repeat(n) + "quit 0;"), NONE, NONE, want[n], 0, 0, 0);
            dueAfter(told("key 0 1;", tasks, "begin 0 0;" + "step 0;".repeat(n) + "begin 1 1;step 1;crash;"), NONE, NONE, want[n] + 1, 1, 0, 0);
            dueAfter(told("key 0 1;", tasks, "begin 0 0;" + "step 0;".repeat(n)), NONE, NONE, 0, 0, 0, 0);
        }
        dueAfter(told("key 0 1;", tasks, "begin 0 0;step 0;step 0;step 0;" + run(1, 1, 1) + "commit 0;"), 1, 0, 3, 0, 0, 101);
        dueAfter(told("key 0 1;", tasks, run(0, 0, 3) + "crash;"), 0, NONE, 0, 1, 1, 0);
        under("term 5: WASTED: of all of them together");
        dueAfter(told("key 0 1;", tasks, "begin 0 0;step 0;step 0;quit 0;begin 1 0;step 1;quit 1;"), NONE, NONE, 3, 0, 0, 0);
        dueAfter(told("key 0 1;", tasks, "begin 0 0;step 0;quit 0;begin 0 0;step 0;step 0;begin 1 0;step 1;crash;begin 1 0;step 1;crash;"), NONE, NONE, 5, 2, 0, 0);
        dueAfter(told("key 0 1;", tasks, ("begin 0 0;step 0;step 0;step 0;" + run(1, 1, 1) + "commit 0;").repeat(2) + "begin 0 0;step 0;quit 0;"), 1, 0, 7, 0, 0, 102);
    }

    private static void crashesGoneTop() {
        under("term 5: CRASHES; GONE: how many lines crashes took away in all");
        for (int n = 0; n <= 40; n++) {
            dueAfter(told("", "task;", "crash;".repeat(n)), NONE, NONE, 0, n, 0, 0);
        }
        dueAfter(told("", "task;", (run(0, 0, 0) + "crash;").repeat(13)), 0, NONE, 0, 13, 13, 0);
        dueAfter(told("", "task;", run(0, 0, 0).repeat(19) + "crash;crash;"), 0, NONE, 0, 2, 19, 0);
        under("term 5: TOP: the greatest STAMP of a KEY (there or not)");
        dueAfter(told("key 9 1;", "task;cut 9;task;put 0 1;", run(0, 1, 1) + run(0, 0, 1)), 0, NONE, 0, 0, 0, 102);
        dueAfter(told("key 9 1;", "task;cut 9;task;put 0 1;task;", run(0, 1, 1) + run(0, 2, 0)), 1, NONE, 0, 0, 0, 101);
        dueAfter(told("", "task;put 0 1;", "epoch;epoch;" + run(0, 0, 1)), 0, NONE, 0, 0, 0, 301);
    }
}
