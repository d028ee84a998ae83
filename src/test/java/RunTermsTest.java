/** Term 2, sentence by sentence: deeds that can't be, looks, checks, stamps, versions, epochs, logs, crashes. */
public final class RunTermsTest extends Answers {
    private RunTermsTest() {
    }

    public static void main(String[] args) {
        atFirst();
        beginCannotBe();
        beginAnew();
        stepCannotBe();
        views();
        sums();
        readOnce();
        guardedOnce();
        writtenIsNotRead();
        whatLooks();
        adds();
        scansLook();
        scansGuard();
        commitCannotBe();
        checks();
        changedAndBack();
        refusedDoesNothing();
        stampsByLast();
        stampsByKeys();
        stampsByEpoch();
        versions();
        lines();
        quits();
        epochs();
        flushes();
        crashTakes();
        crashRedoes();
        crashResets();
        stops();
        finish("RunTermsTest");
    }

    private static String run(int worker, int task, int steps) {
        return "begin " + worker + " " + task + ";" + ("step " + worker + ";").repeat(steps) + "commit " + worker + ";";
    }

    private static void atFirst() {
        under("term 2: a SCHEDULE begins in EPOCH 1, KEYS as told, all else 0, empty, idle");
        EpochEngine x = told("span 1;workers 4;key 3 7;key 9 0;", "task;", "");
        int[] all = {1, 0, 0, 0, 1 << 3 | 1 << 9, 0};
        for (int what = 0; what < all.length; what++) {
            dueState(x, 0, what, all[what]);
        }
        for (int k = 0; k < 10; k++) {
            int value = k == 3 ? 7 : k == 9 ? 0 : NONE;
            dueState(x, 0, 10 + k, value);
            dueState(x, 0, 20 + k, 0);
            dueState(x, 0, 30 + k, value);
            dueState(x, 0, 40 + k, 0);
        }
        for (int w = 0; w < 4; w++) {
            dueState(x, 0, 50 + w, NONE);
            for (int row = 60; row <= 100; row += 10) {
                dueState(x, 0, row + w, 0);
            }
        }
        due("STOP of no DEEDS", x.stop(0, 0, 0), 0);
    }

    private static void beginCannotBe() {
        under("term 2: begin can't be without such a WORKER");
        for (int workers = 1; workers <= 4; workers++) {
            for (int w = 0; w < 4; w++) {
                dueStop("workers " + workers + ";", "task;", "begin " + w + " 0;", w < workers ? 1 : 0);
            }
        }
        under("term 2: begin can't be without such a TASK");
        for (int tasks = 0; tasks <= 7; tasks++) {
            for (int t = 0; t < 7; t++) {
                dueStop("", "task;".repeat(tasks), "begin 0 " + t + ";", t < tasks ? 1 : 0);
            }
        }
        under("term 2: begin can't be by a WORKER that is not idle");
        dueStop("", "task;", "begin 0 0;begin 0 0;", 1);
        dueStop("", "task;cut 0;", "begin 0 0;step 0;begin 0 0;", 2);
        dueStop("", "task;", "begin 0 0;begin 1 0;", 2);
        dueStop("", "task;", "begin 0 0;commit 0;begin 0 0;", 3);
    }

    /** What was read, guarded and written ahead of a quit, a refusal, a crash is nothing to the next TASK. */
    private static void beginAnew() {
        under("term 2: begin: no STEP is done, SUM is 0, nothing is READ, GUARDED, WRITTEN");
        String tasks = "task;read 0;read 2;put 4 1;task;put 0 9;put 2 1;task;put 6 1;";
        String away = "begin 0 0;step 0;step 0;step 0;";
        String[] ends = {away + "quit 0;" + run(1, 1, 2), away + run(1, 1, 2) + "commit 0;", away + "crash;" + run(1, 1, 2)};
        for (String end : ends) {
            EpochEngine x = told("key 0 5;", tasks, end + run(0, 2, 1));
            due("STOP of " + end, x.stop(0, 0, 0), 12);
            dueState(x, 10, 50, 2);
            dueState(x, 10, 60, 0);
            dueState(x, 10, 70, 0);
            dueWhy(x, 11, 1, NONE, NONE, 101);
            dueState(x, 12, 14, NONE);
            dueState(x, 12, 24, 0);
            dueState(x, 12, 16, 1);
        }
    }

    private static void stepCannotBe() {
        under("term 2: step can't be by an idle WORKER, behind the last STEP, without such a WORKER");
        dueStop("", "task;cut 0;", "step 0;", 0);
        dueStop("", "task;cut 0;", "begin 0 0;step 1;", 1);
        dueStop("", "task;", "begin 0 0;step 0;", 1);
        for (int steps = 0; steps <= 6; steps++) {
            dueStop("", "task;" + "cut 0;".repeat(steps), "begin 0 0;" + "step 0;".repeat(8), 1 + steps);
        }
        dueStop("workers 3;", "task;cut 0;", "begin 2 0;step 2;step 3;", 2);
        dueStop("", "task;cut 0;", "begin 0 0;step 0;commit 0;step 0;", 3);
    }

    private static void views() {
        under("term 2: VIEW: what it WROTE last there, if it did (a VALUE, or that it is not there)");
        EpochEngine x = told("key 0 5;", "task;put 0 7;read 0;put 0 8;read 0;cut 0;read 0;task;put 0 40;",
                "begin 0 0;step 0;step 0;" + run(1, 1, 1) + "step 0;step 0;step 0;step 0;commit 0;");
        int[][] sums = {{2, 0}, {3, 7}, {6, 7}, {7, 7}, {8, 15}, {9, 15}, {10, 15}};
        for (int[] sum : sums) {
            dueState(x, sum[0], 70, sum[1]);
        }
        dueWhy(x, 10, 1, NONE, NONE, 102);
        dueState(x, 11, 10, NONE);
        under("term 2: VIEW: else what the STORE has now");
        EpochEngine y = told("key 0 5;", "task;read 0;read 0;read 0;task;put 0 6;task;cut 0;",
                "begin 0 0;step 0;" + run(1, 1, 1) + "step 0;" + run(1, 2, 1) + "step 0;commit 0;");
        dueState(y, 2, 70, 5);
        dueState(y, 6, 70, 11);
        dueState(y, 10, 70, 11);
        under("term 2: what one WORKER WROTE is not in another one's VIEW, nor in the STORE, ahead of its commit");
        EpochEngine z = told("key 0 5;", "task;put 0 9;put 1 9;task;read 0;read 1;",
                "begin 0 0;step 0;step 0;begin 1 1;step 1;step 1;commit 1;commit 0;");
        dueState(z, 6, 71, 5);
        dueState(z, 6, 10, 5);
        dueState(z, 6, 4, 1);
        dueState(z, 8, 10, 9);
        dueState(z, 8, 4, 3);
    }

    private static void sums() {
        under("term 2: SUM: remainder by 100, of a KEY that is not there 0");
        EpochEngine x = told("key 0 99;key 1 1;key 2 99;", "task;read 0;read 1;read 2;read 0;read 7;save 8;",
                "begin 0 0;" + "step 0;".repeat(6) + "commit 0;");
        int[] sums = {0, 99, 0, 99, 98, 98, 98};
        for (int n = 0; n < sums.length; n++) {
            dueState(x, 1 + n, 70, sums[n]);
        }
        dueState(x, 8, 70, 0);
        dueState(x, 8, 18, 98);
        EpochEngine y = told("key 0 99;key 1 99;key 2 99;key 3 99;key 4 99;key 5 99;key 6 99;key 7 99;key 8 99;key 9 99;",
                "task;scan 0 9;scan 0 9;scan 0 9;scan 0 9;scan 0 9;scan 0 9;", "begin 0 0;" + "step 0;".repeat(6));
        for (int n = 0; n <= 6; n++) {
            dueState(y, 1 + n, 70, 990 * n % 100);
        }
        under("term 2: save: WRITES SUM, 0 ahead of any LOOK");
        EpochEngine z = told("key 0 5;", "task;save 0;read 0;save 1;", run(0, 0, 3));
        dueState(z, 5, 10, 0);
        dueState(z, 5, 11, 0);
        dueState(z, 4, 70, 0);
    }

    private static void readOnce() {
        under("term 2: a KEY is READ with its STAMP, if it was not READ yet");
        EpochEngine x = told("key 0 5;", "task;read 0;read 0;task;put 0 5;", "begin 0 0;step 0;" + run(1, 1, 1) + "step 0;commit 0;");
        dueWhy(x, 6, 2, 0, 4, NONE);
        EpochEngine y = told("key 0 5;", "task;read 1;read 0;task;put 0 5;", "begin 0 0;step 0;" + run(1, 1, 1) + "step 0;commit 0;");
        dueWhy(y, 6, 1, NONE, NONE, 102);
    }

    private static void guardedOnce() {
        under("term 2: a NODE is GUARDED with its VERSION, if it was not yet");
        String others = "task;put 1 1;task;put 3 1;";
        String[] twice = {"read 0;read 0;", "scan 0 0;scan 0 0;", "read 0;scan 0 0;", "scan 0 0;read 0;"};
        for (String looks : twice) {
            EpochEngine x = told("", others + "task;" + looks, "begin 0 2;step 0;" + run(1, 0, 1) + "step 0;commit 0;");
            dueWhy(x, 6, 3, 0, 4, NONE);
            EpochEngine y = told("", others + "task;" + looks, "begin 0 2;step 0;" + run(1, 1, 1) + "step 0;commit 0;");
            dueWhy(y, 6, 1, NONE, NONE, 101);
        }
        EpochEngine z = told("", others + "task;read 9;read 0;", "begin 0 2;step 0;" + run(1, 0, 1) + "step 0;commit 0;");
        dueWhy(z, 6, 1, NONE, NONE, 101);
    }

    private static void writtenIsNotRead() {
        under("term 2: a LOOK where it WROTE neither READS nor GUARDS");
        String[] tasks = {"put 0 1;read 0;", "cut 0;read 0;", "put 0 1;add 0 1;", "cut 0;add 0 1;", "save 0;read 0;"};
        String[] others = {"put 0 9;", "cut 0;"};
        for (String task : tasks) {
            for (String other : others) {
                EpochEngine x = told("key 0 5;", "task;" + task + "task;" + other, "begin 0 0;step 0;step 0;" + run(1, 1, 1) + "commit 0;");
                dueWhy(x, 6, 1, NONE, NONE, 102);
                EpochEngine y = told("", "task;" + task + "task;" + other, "begin 0 0;step 0;step 0;" + run(1, 1, 1) + "commit 0;");
                dueWhy(y, 6, 1, NONE, NONE, 102);
            }
        }
    }

    /** Each STEP by itself against a commit that changes a KEY that is there (STALE), and one that brings a KEY (a PHANTOM). */
    private static void whatLooks() {
        under("term 2: read, add, scan LOOK; put, cut, save do not");
        String[] steps = {"read", "cut", "save", "put", "add", "scan"};
        int[] looks = {1, 0, 0, 0, 1, 1};
        for (int i = 0; i < steps.length; i++) {
            String second = i == 3 || i == 4 ? " 3;" : i == 5 ? " 0;" : ";";
            EpochEngine x = told("key 0 5;", "task;" + steps[i] + " 0" + second + "task;put 0 5;",
                    "begin 0 0;step 0;" + run(1, 1, 1) + "commit 0;");
            due("why of " + steps[i] + " of a KEY that is there", x.why(0, 0, 0, 5, 0), looks[i] == 1 ? 2 : 1);
            EpochEngine y = told("", "task;" + steps[i] + " 0" + second + "task;put 1 5;",
                    "begin 0 0;step 0;" + run(1, 1, 1) + "commit 0;");
            due("why of " + steps[i] + " of one that is not", y.why(0, 0, 0, 5, 0), looks[i] == 1 ? 3 : 1);
            due("its SUM", x.state(0, 0, 0, 2, 70), looks[i] == 1 ? 5 : 0);
        }
        under("term 2: a KEY that is there is READ, its NODE is not GUARDED by that");
        EpochEngine z = told("key 0 5;", "task;read 0;task;put 1 5;", "begin 0 0;step 0;" + run(1, 1, 1) + "commit 0;");
        dueWhy(z, 5, 1, NONE, NONE, 101);
    }

    private static void adds() {
        under("term 2: add: VALUE of its VIEW (0, if it is not there) and so much, remainder by 100");
        int[][] rows = {{0, 0, 0}, {0, 99, 99}, {1, 99, 0}, {99, 1, 0}, {99, 99, 98}, {50, 49, 99}, {50, 50, 0}};
        for (int[] row : rows) {
            EpochEngine x = told("key 4 " + row[0] + ";", "task;add 4 " + row[1] + ";", run(0, 0, 1));
            due(row[0] + " add " + row[1], x.state(0, 0, 0, 3, 14), row[2]);
            due("SUM of it", x.state(0, 0, 0, 2, 70), row[0]);
        }
        EpochEngine y = told("key 4 9;", "task;add 5 0;add 6 7;cut 4;add 4 3;add 4 98;", run(0, 0, 5));
        dueState(y, 7, 15, 0);
        dueState(y, 7, 16, 7);
        dueState(y, 7, 14, 1);
        dueState(y, 6, 70, 3);
    }

    private static void scansLook() {
        under("term 2: scan: a LOOK at each KEY between (both, too), rising, that is there by its VIEW");
        String keys = "key 0 1;key 1 2;key 2 4;key 3 8;key 4 16;key 5 32;";
        int[] values = {1, 2, 4, 8, 16, 32, 0, 0, 0, 0};
        for (int from = 0; from < 10; from++) {
            for (int to = from; to < 10; to++) {
                int sum = 0;
                for (int k = from; k <= to; k++) {
                    sum += values[k];
                }
                EpochEngine x = told(keys, "task;scan " + from + " " + to + ";", "begin 0 0;step 0;");
                due("SUM of scan " + from + " " + to, x.state(0, 0, 0, 2, 70), sum);
            }
        }
        EpochEngine y = told(keys, "task;put 1 50;cut 3;put 7 40;scan 0 9;save 9;", run(0, 0, 5));
        dueState(y, 5, 70, (1 + 50 + 4 + 16 + 32 + 40) % 100);
        under("term 2: scan LOOKS at no KEY beside, though it is of a GUARDED NODE");
        EpochEngine z = told("span 5;key 0 1;key 2 1;", "task;scan 1 1;task;put 0 9;put 2 9;", "begin 0 0;step 0;" + run(1, 1, 2) + "commit 0;");
        dueWhy(z, 6, 1, NONE, NONE, 101);
    }

    private static void scansGuard() {
        under("term 2: scan: all NODES from that of the first KEY to that of the second are GUARDED, no other");
        for (int span = 1; span <= 5; span++) {
            for (int brought = 0; brought < 10; brought++) {
                EpochEngine x = told("span " + span + ";", "task;scan 3 6;task;put " + brought + " 1;",
                        "begin 0 0;step 0;" + run(1, 1, 1) + "commit 0;");
                boolean guarded = brought / span >= 3 / span && brought / span <= 6 / span;
                dueWhy(x, 5, guarded ? 3 : 1, guarded ? brought / span : NONE, guarded ? 4 : NONE, guarded ? NONE : 101);
            }
        }
        EpochEngine y = told("span 5;key 0 1;", "task;scan 0 0;task;cut 0;task;put 4 1;", "begin 0 0;step 0;" + run(1, 2, 1) + "commit 0;");
        dueWhy(y, 5, 3, 0, 4, NONE);
    }

    private static void commitCannotBe() {
        under("term 2: commit can't be by an idle WORKER, ahead of the last STEP, without such a WORKER");
        dueStop("", "task;", "commit 0;", 0);
        dueStop("", "task;", "begin 0 0;commit 0;commit 0;", 2);
        dueStop("workers 1;", "task;", "commit 1;", 0);
        for (int steps = 0; steps <= 6; steps++) {
            for (int done = 0; done <= steps; done++) {
                dueStop("", "task;" + "cut 0;".repeat(steps), "begin 0 0;" + "step 0;".repeat(done) + "commit 0;",
                        1 + done + (done == steps ? 1 : 0));
            }
        }
        under("term 2: a commit that is REFUSED can be");
        dueStop("key 0 1;", "task;read 0;task;put 0 1;", "begin 0 0;step 0;" + run(1, 1, 1) + "commit 0;epoch;", 7);
    }

    private static void checks() {
        under("term 2: CHECKED: READ KEYS, rising, then GUARDED NODES, rising; the first REFUSES it");
        EpochEngine x = told("span 1;key 7 1;key 5 1;key 9 1;", "task;read 9;read 7;read 5;read 0;task;put 0 1;put 5 1;put 7 1;put 9 1;",
                "begin 0 0;step 0;step 0;step 0;step 0;" + run(1, 1, 4) + "commit 0;");
        dueWhy(x, 11, 2, 5, 10, NONE);
        EpochEngine y = told("span 1;key 7 1;key 5 1;key 9 1;", "task;read 9;read 7;read 5;read 0;task;put 0 1;cut 9;",
                "begin 0 0;step 0;step 0;step 0;step 0;" + run(1, 1, 2) + "commit 0;");
        dueWhy(y, 9, 2, 9, 8, NONE);
        EpochEngine z = told("span 2;", "task;read 8;read 4;read 0;task;put 9 1;put 5 1;",
                "begin 0 0;step 0;step 0;step 0;" + run(1, 1, 2) + "commit 0;");
        dueWhy(z, 8, 3, 2, 7, NONE);
        under("term 2: KEY 9, the last NODE are CHECKED, too");
        EpochEngine v = told("key 9 1;", "task;read 9;task;put 9 1;", "begin 0 0;step 0;" + run(1, 1, 1) + "commit 0;");
        dueWhy(v, 5, 2, 9, 4, NONE);
        EpochEngine w = told("span 1;", "task;read 9;task;put 9 1;", "begin 0 0;step 0;" + run(1, 1, 1) + "commit 0;");
        dueWhy(w, 5, 3, 9, 4, NONE);
    }

    private static void changedAndBack() {
        under("term 2: STALE: not there, or of another STAMP, whatever its VALUE");
        EpochEngine x = told("key 0 5;", "task;read 0;task;cut 0;task;put 0 5;", "begin 0 0;step 0;" + run(1, 1, 1) + run(1, 2, 1) + "commit 0;");
        dueWhy(x, 8, 2, 0, 7, NONE);
        EpochEngine y = told("key 0 5;", "task;read 0;task;cut 0;task;put 0 5;", "begin 0 0;step 0;" + run(1, 1, 1) + "commit 0;");
        dueWhy(y, 5, 2, 0, 4, NONE);
        under("term 2: a PHANTOM: of another VERSION, though the KEYS are as they were");
        EpochEngine z = told("", "task;read 0;task;put 0 5;task;cut 0;", "begin 0 0;step 0;" + run(1, 1, 1) + run(1, 2, 1) + "commit 0;");
        dueWhy(z, 8, 3, 0, 7, NONE);
    }

    private static void refusedDoesNothing() {
        under("term 2: REFUSED: nothing is done, it is idle then");
        EpochEngine x = told("key 0 5;", "task;read 0;put 0 9;put 1 9;task;put 0 6;", "begin 0 0;step 0;step 0;step 0;" + run(1, 1, 1) + "commit 0;");
        for (int what = 0; what < 110; what++) {
            boolean worker0 = what == 50 || what == 60 || what == 70;
            if (what != 3 && !worker0) {
                due("state " + what, x.state(0, 0, 0, 8, what), x.state(0, 0, 0, 7, what));
            }
        }
        dueState(x, 7, 3, 0);
        dueState(x, 8, 3, 1);
        dueState(x, 7, 50, 0);
        dueState(x, 8, 50, NONE);
        dueState(x, 7, 60, 3);
        dueState(x, 8, 60, 0);
        dueState(x, 7, 70, 5);
        dueState(x, 8, 70, 0);
        dueState(x, 8, 80, 0);
        dueState(x, 8, 90, 0);
    }

    private static void stampsByLast() {
        under("term 2: STAMP: 1 more than its own LAST one");
        EpochEngine x = told("", "task;", run(0, 0, 0).repeat(5) + run(1, 0, 0));
        for (int i = 0; i < 5; i++) {
            dueWhy(x, 1 + 2 * i, 1, NONE, NONE, 101 + i);
        }
        dueWhy(x, 11, 1, NONE, NONE, 101);
        dueState(x, 12, 80, 105);
        dueState(x, 12, 81, 101);
    }

    private static void stampsByKeys() {
        under("term 2: STAMP: more than those of READ KEYS");
        String tasks = "task;put 0 1;task;read 0;task;put 0 2;task;cut 0;task;read 0;put 5 1;task;add 0 1;task;scan 0 1;";
        String thrice = run(0, 0, 1).repeat(3);
        EpochEngine x = told("", tasks, thrice + run(1, 1, 1));
        dueWhy(x, 8, 1, NONE, NONE, 103);
        dueWhy(x, 11, 1, NONE, NONE, 104);
        EpochEngine s = told("", tasks, thrice + run(1, 6, 1));
        dueWhy(s, 11, 1, NONE, NONE, 104);
        under("term 2: STAMP: more than those of WRITTEN KEYS (there or not)");
        EpochEngine y = told("", tasks, thrice + run(1, 2, 1) + run(0, 3, 1) + run(1, 2, 1));
        dueWhy(y, 11, 1, NONE, NONE, 104);
        dueWhy(y, 14, 1, NONE, NONE, 105);
        dueWhy(y, 17, 1, NONE, NONE, 106);
        EpochEngine z = told("", tasks, thrice + run(0, 3, 1) + run(1, 5, 1));
        dueWhy(z, 14, 1, NONE, NONE, 105);
        under("term 2: STAMP: a KEY that is not there is not READ, its STAMP does not count");
        EpochEngine v = told("", tasks, thrice + run(0, 3, 1) + run(1, 4, 2));
        dueWhy(v, 15, 1, NONE, NONE, 101);
        under("term 2: WRITTEN KEYS have this STAMP (there or not), READ ones keep theirs");
        dueState(v, 12, 20, 104);
        dueState(v, 12, 10, NONE);
        dueState(v, 16, 20, 104);
        dueState(v, 16, 25, 101);
        dueState(x, 12, 20, 103);
    }

    private static void stampsByEpoch() {
        under("term 2: STAMP: at least 100 times the EPOCH and 1");
        EpochEngine x = told("", "task;put 0 1;", run(0, 0, 1) + "epoch;" + run(0, 0, 1) + run(1, 0, 1) + "epoch;epoch;" + run(1, 0, 1));
        dueWhy(x, 2, 1, NONE, NONE, 101);
        dueWhy(x, 6, 1, NONE, NONE, 201);
        dueWhy(x, 9, 1, NONE, NONE, 202);
        dueWhy(x, 14, 1, NONE, NONE, 401);
        under("term 2: it is the EPOCH of the commit, not that of the begin");
        EpochEngine y = told("", "task;put 0 1;", "begin 0 0;step 0;epoch;commit 0;");
        dueWhy(y, 3, 1, NONE, NONE, 201);
        EpochEngine z = told("", "task;", "epoch;".repeat(38) + run(0, 0, 0));
        dueWhy(z, 39, 1, NONE, NONE, 3901);
    }

    private static void versions() {
        under("term 2: VERSION: 1 more for each KEY that comes to be there or not to be any more");
        EpochEngine x = told("span 5;key 0 1;key 1 1;", "task;put 2 1;put 3 1;put 4 1;task;cut 0;cut 1;put 2 9;cut 9;task;cut 2;put 0 1;"
                + "task;put 8 1;cut 8;task;put 0 0;task;cut 3;put 3 1;",
                run(0, 0, 3) + run(0, 1, 4) + run(0, 2, 2) + run(0, 3, 2) + run(0, 4, 1) + run(0, 5, 2));
        int[][] rows = {{0, 0, 0}, {5, 3, 0}, {11, 5, 0}, {15, 7, 0}, {19, 7, 0}, {22, 7, 0}, {26, 7, 0}};
        for (int[] row : rows) {
            dueState(x, row[0], 40, row[1]);
            dueState(x, row[0], 41, row[2]);
        }
        under("term 2: WRITTEN, but not there before nor behind: a STAMP, no VERSION");
        dueState(x, 11, 29, 102);
        dueState(x, 19, 28, 104);
        dueState(x, 19, 18, NONE);
    }

    private static void lines() {
        under("term 2: each commit is a line more of its WORKER's log, whatever it WROTE");
        EpochEngine x = told("workers 3;", "task;task;read 0;task;cut 0;task;put 0 1;", run(2, 0, 0) + run(2, 1, 1) + run(0, 2, 1) + run(2, 3, 1));
        int[][] rows = {{2, 0, 1}, {5, 0, 2}, {8, 1, 2}, {11, 1, 3}};
        for (int[] row : rows) {
            dueState(x, row[0], 90, row[1]);
            dueState(x, row[0], 91, 0);
            dueState(x, row[0], 92, row[2]);
            dueState(x, row[0], 2, row[1] + row[2]);
        }
    }

    private static void quits() {
        under("term 2: quit can't be by an idle WORKER, without such a WORKER");
        dueStop("", "task;", "quit 0;", 0);
        dueStop("", "task;", "begin 0 0;quit 1;", 1);
        dueStop("", "task;", "begin 0 0;quit 0;quit 0;", 2);
        dueStop("", "task;", "begin 0 0;quit 2;", 1);
        under("term 2: quit, at any STEP: a WORKER that works is idle");
        for (int done = 0; done <= 2; done++) {
            EpochEngine x = told("", "task;put 0 1;put 1 1;", "begin 0 0;" + "step 0;".repeat(done) + "quit 0;");
            dueState(x, 2 + done, 50, NONE);
            dueState(x, 2 + done, 60, 0);
            dueState(x, 2 + done, 4, 0);
            dueState(x, 2 + done, 2, 0);
            dueState(x, 2 + done, 3, 0);
        }
    }

    private static void epochs() {
        under("term 2: epoch: the next one; 40 DEEDS lead to 41, so 50 is out of reach");
        EpochEngine x = told("", "", "epoch;".repeat(40));
        due("STOP", x.stop(0, 0, 0), 40);
        for (int n = 0; n <= 40; n++) {
            dueState(x, n, 0, 1 + n);
        }
        under("term 2: epoch can't be while one works at a TASK that was begun ahead of this EPOCH");
        dueStop("", "task;", "begin 0 0;epoch;epoch;", 2);
        dueStop("", "task;", "epoch;begin 0 0;epoch;epoch;", 3);
        dueStop("workers 4;", "task;", "begin 3 0;epoch;begin 0 0;epoch;", 3);
        dueStop("", "task;", "begin 0 0;epoch;commit 0;epoch;epoch;", 5);
        dueStop("", "task;", "begin 0 0;epoch;quit 0;epoch;epoch;", 5);
        dueStop("", "task;", "begin 0 0;epoch;quit 0;begin 0 0;epoch;epoch;", 5);
        dueStop("", "task;", "begin 0 0;epoch;crash;epoch;epoch;", 5);
        dueStop("key 0 1;", "task;read 0;task;put 0 1;", "begin 0 0;step 0;" + run(1, 1, 1) + "epoch;commit 0;epoch;", 8);
    }

    private static void flushes() {
        under("term 2: flush can't be without such a WORKER; an idle one, one that works may");
        for (int workers = 1; workers <= 4; workers++) {
            dueStop("workers " + workers + ";", "", "flush 0;flush 1;flush 2;flush 3;", workers);
        }
        dueStop("", "task;cut 0;", "begin 0 0;flush 0;step 0;flush 0;commit 0;flush 0;", 6);
        under("term 2: flush: all lines of its log are on DISK, none of another one's, none behind");
        EpochEngine x = told("", "task;", run(0, 0, 0).repeat(2) + run(1, 0, 0) + "flush 0;" + run(0, 0, 0) + "flush 1;");
        int[][] disk = {{6, 0, 0}, {7, 2, 0}, {9, 2, 0}, {10, 2, 1}};
        for (int[] row : disk) {
            dueState(x, row[0], 100, row[1]);
            dueState(x, row[0], 101, row[2]);
        }
        under("term 2: DONE is the EPOCH less 1; DURABLE: the least DONE of all WORKERS");
        EpochEngine y = told("workers 3;", "", "flush 0;flush 1;flush 2;epoch;flush 0;flush 2;flush 1;epoch;epoch;flush 1;flush 2;flush 0;epoch;");
        int[] durable = {0, 0, 0, 0, 0, 0, 0, 1, 1, 1, 1, 1, 3, 3};
        for (int n = 0; n < durable.length; n++) {
            dueState(y, n, 1, durable[n]);
        }
        EpochEngine z = told("workers 1;", "", "epoch;flush 0;epoch;flush 0;");
        dueState(z, 1, 1, 0);
        dueState(z, 2, 1, 1);
        dueState(z, 3, 1, 1);
        dueState(z, 4, 1, 2);
    }

    private static void crashTakes() {
        under("term 2: crash: a line on DISK of EPOCH DURABLE stays, one of the next EPOCH does not");
        EpochEngine x = told("workers 1;key 1 7;", "task;put 0 1;task;put 0 2;cut 1;", run(0, 0, 1) + "epoch;" + run(0, 1, 2) + "flush 0;crash;");
        dueState(x, 8, 90, 2);
        dueState(x, 9, 100, 2);
        dueState(x, 9, 5, 1);
        dueState(x, 9, 30, 1);
        dueState(x, 9, 31, 7);
        dueState(x, 10, 90, 1);
        dueState(x, 10, 100, 1);
        dueState(x, 10, 10, 1);
        dueState(x, 10, 20, 101);
        dueState(x, 10, 11, 7);
        dueState(x, 10, 21, 0);
        dueState(x, 10, 5, 0);
        under("term 2: crash: lines that are not on DISK, of any EPOCH, are no more");
        EpochEngine y = told("workers 1;", "task;put 0 1;", run(0, 0, 1) + "epoch;crash;crash;");
        dueState(y, 4, 5, 1);
        dueState(y, 5, 90, 0);
        dueState(y, 5, 10, NONE);
        dueState(y, 5, 0, 1);
        due("GONE once", y.after(0, 0, 0, 4), 1);
        due("CRASHES", y.after(0, 0, 0, 3), 2);
        under("term 2: crash: one WORKER that was not flushed holds all back");
        EpochEngine z = told("workers 4;", "task;put 0 1;", run(0, 0, 1) + "epoch;flush 0;flush 1;flush 2;crash;");
        dueState(z, 7, 1, 0);
        dueState(z, 8, 4, 0);
        dueState(z, 8, 0, 1);
        under("term 2: crash, nothing being there: all is as at first");
        EpochEngine v = told("key 0 1;", "", "crash;");
        for (int what = 0; what < 110; what++) {
            due("state " + what, v.state(0, 0, 0, 1, what), v.state(0, 0, 0, 0, what));
        }
    }

    private static void crashRedoes() {
        under("term 2: crash: lines by STAMPS, whoever's log they are of");
        EpochEngine x = told("key 3 3;", "task;put 0 1;task;put 0 2;task;cut 0;task;put 3 9;", run(1, 0, 1) + run(0, 1, 1) + run(1, 3, 1)
                + "epoch;flush 0;flush 1;crash;");
        dueState(x, 13, 10, 2);
        dueState(x, 13, 20, 102);
        dueState(x, 13, 13, 9);
        dueState(x, 13, 23, 102);
        EpochEngine y = told("", "task;put 0 1;task;put 0 2;task;cut 0;", run(0, 0, 1) + run(1, 1, 1) + run(0, 2, 1) + "epoch;flush 0;flush 1;crash;");
        dueState(y, 13, 10, NONE);
        dueState(y, 13, 20, 103);
        dueState(y, 13, 24, 0);
        under("term 2: crash: lines of earlier EPOCHS and crashes are done again, too");
        EpochEngine z = told("workers 1;", "task;put 0 1;task;put 1 1;", run(0, 0, 1) + "epoch;flush 0;crash;" + run(0, 1, 1) + "epoch;flush 0;crash;crash;");
        dueState(z, 12, 4, 3);
        dueState(z, 12, 20, 101);
        dueState(z, 12, 21, 201);
        dueState(z, 12, 0, 3);
        dueState(z, 12, 90, 2);
        due("GONE", z.after(0, 0, 0, 4), 0);
    }

    private static void crashResets() {
        under("term 2: crash: all WORKERS idle, LAST STAMPS 0, VERSIONS 0, DONE of each DURABLE, EPOCH 1 more");
        EpochEngine x = told("", "task;put 0 1;", run(0, 0, 1) + run(1, 0, 1) + "epoch;flush 0;flush 1;epoch;flush 0;begin 0 0;step 0;begin 1 0;crash;"
                + run(1, 0, 1) + "epoch;flush 0;");
        int behind = 15;
        dueState(x, behind - 1, 0, 3);
        dueState(x, behind - 1, 40, 1);
        dueState(x, behind, 0, 2);
        dueState(x, behind, 1, 1);
        dueState(x, behind, 40, 0);
        for (int w = 0; w < 2; w++) {
            dueState(x, behind, 50 + w, NONE);
            dueState(x, behind, 60 + w, 0);
            dueState(x, behind, 70 + w, 0);
            dueState(x, behind, 80 + w, 0);
            dueState(x, behind, 90 + w, 1);
            dueState(x, behind, 100 + w, 1);
        }
        dueWhy(x, behind + 2, 1, NONE, NONE, 201);
        // Worker 0 had DONE 2 ahead of the crash; 1 behind it, as all: so its flush in EPOCH 3 alone leaves DURABLE at 1.
        dueState(x, behind + 3, 1, 1);
        dueState(x, behind + 5, 1, 1);
        dueState(x, behind + 5, 0, 3);
    }

    private static void stops() {
        under("term 2: STOP: the first DEED that can't be, else how many there are");
        dueStop("", "", "", 0);
        dueStop("", "", "begin 0 0;epoch;", 0);
        dueStop("", "", "epoch;crash;flush 0;", 3);
        dueStop("", "", "epoch;step 0;crash;", 1);
        dueStop("", "", "crash;".repeat(40), 40);
        dueStop("", "", "crash;".repeat(39) + "quit 0;", 39);
        under("term 2: a STATE is behind the first n DEEDS, n up to STOP");
        EpochEngine x = told("", "", "epoch;epoch;step 0;epoch;");
        int[] epochs = {1, 2, 3, NO_SUCH, NO_SUCH};
        for (int n = 0; n < epochs.length; n++) {
            dueState(x, n, 0, epochs[n]);
        }
        under("term 2: of a DEED that can't be nothing is done");
        EpochEngine y = told("", "task;put 0 1;", "begin 0 0;commit 0;step 0;");
        due("COMMITS", y.serial(0, 0, 0, 0), 0);
        due("TASK of WORKER 0", y.state(0, 0, 0, 1, 50), 0);
        due("WASTED", y.after(0, 0, 0, 2), 0);
    }
}
