import java.util.Arrays;

/** Each promise by itself: ordinary inputs, the edges that the document names, wrong inputs; answers worked out by hand. */
public final class PromisesTest extends Answers {
    private static final String STORE = "span 5;workers 2;key 0 10;key 1 20;key 6 5;";
    private static final String TASKS = "task;add 0 5;save 2;task;scan 0 4;put 7 1;task;cut 1;task;read 3;put 3 9;";
    private static final String CRASHING = "begin 0 0;begin 1 1;step 0;step 1;step 1;step 0;commit 0;commit 1;flush 0;"
            + "epoch;begin 1 2;step 1;commit 1;flush 1;crash;";
    private static final String SERIAL = "begin 0 0;step 0;step 0;begin 1 3;step 1;step 1;commit 1;commit 0;"
            + "begin 0 1;step 0;step 0;commit 0;epoch;";

    private PromisesTest() {
    }

    public static void main(String[] args) {
        under("promise 1");
        newObject();
        under("promises 2, 3");
        feedAndEnd();
        under("promise 4");
        texts();
        under("term 1, promise 5: FAULT 1");
        faultsOfForm();
        under("term 1, promise 5: FAULT 2");
        faultsOfNumbers();
        under("term 1, promise 5: FAULT 3");
        faultsOfLimits();
        under("promise 6");
        stores();
        under("promise 7");
        tasks();
        under("promise 8");
        deeds();
        under("promise 9");
        stops();
        under("promise 10");
        statesOfCrash();
        under("term 2, promise 10: LOOK");
        looks();
        under("term 2, promises 10, 11: scan");
        scans();
        under("term 2, promises 10, 11: STAMP");
        stamps();
        under("term 2, promise 10: EPOCH");
        epochs();
        under("term 2, promise 10: DURABLE");
        durable();
        under("term 2, promise 10: crash");
        recovery();
        under("promise 11");
        whyRefused();
        under("promise 12");
        serialOrders();
        under("promise 13");
        facts();
        under("promise 14");
        fitting();
        under("promise 15");
        drawing();
        under("promises 16, 17");
        keysOfTasks();
        under("promises 18, 19");
        aloneAndSwaps();
        under("promises 20, 21");
        weaving();
        under("promise 22");
        afterAll();
        under("promise 23");
        counts();
        under("promises 24, 25");
        images();
        finish("PromisesTest");
    }

    private static void newObject() {
        EpochEngine x = new EpochEngine();
        due("NONE", EpochEngine.NONE, -1);
        for (int sort = 0; sort < 4; sort++) {
            due("count(" + sort + ") of a new object", x.count(sort), 0);
        }
        for (int k = 0; k < 3; k++) {
            due("again(" + k + ") of a new object", x.again(k), false);
        }
        due("fault(0) of a new object", x.fault(0), 0);
        due("fault(1) of a new object", x.fault(1), NONE);
        due("end(1) of a new object", x.end(1), NONE);
        due("store of a new object", x.store(0, 0), NO_SUCH);
        due("stop of a new object", x.stop(0, 0, 0), NONE);
    }

    private static void feedAndEnd() {
        EpochEngine x = new EpochEngine();
        for (int i = 1; i <= 30; i++) {
            due("feed " + i, x.feed(0x20202020, 0x20202020, 0x20202020, 0x20202020, 0x20202020), 20 * i);
        }
        due("feed beyond 600", x.feed(0, 0, 0, 0, 0), NONE);
        due("end(601)", x.end(601), NONE);
        due("end(-1)", x.end(-1), NONE);
        due("end(600)", x.end(600), 600);
        due("end(581)", x.end(581), 581);
        due("feed at 581", x.feed(0, 0, 0, 0, 0), NONE);
        due("end(580)", x.end(580), 580);
        due("feed at 580", x.feed(0x7370616e, 0x2035203b, 0x20202020, 0x20202020, 0x20202020), 600);
        due("text of 600 bytes", x.text(0, NONE), 0);
        due("span behind 580 blanks", x.store(0, 0), 5);
        due("the tape is taken", x.end(1), NONE);
        due("feed with the highest byte first", x.feed(0x73706100, 0, 0, 0, 0), 20);
        due("text with a byte 0", x.text(0, NONE), NONE);
        due("place of a word that is none", x.fault(1), 0);
        x.feed(0x20202020, 0xff202020, 0, 0, 0);
        due("text with a byte 255", x.text(0, NONE), NONE);
        due("place of a byte 255", x.fault(1), 4);
    }

    private static void texts() {
        EpochEngine x = new EpochEngine();
        for (int sort = 0; sort < 4; sort++) {
            due("first empty text " + sort, x.text(sort, NONE), 0);
            due("text in the place of none", x.text(sort, 1), NO_SUCH);
            due("second empty text " + sort, x.text(sort, NONE), 1);
            due("third text " + sort, x.text(sort, NONE), NO_SUCH);
            due("text at 2", x.text(sort, 2), NO_SUCH);
            due("text at -2", x.text(sort, -2), NO_SUCH);
            due("text in the place of 1", x.text(sort, 1), 1);
        }
        due("text of sort 4", x.text(4, NONE), NO_SUCH);
        due("text of sort -1", x.text(-1, NONE), NO_SUCH);
        Teller.tell(x, 0, 1, "span 5;");
        due("fault in the place of one", Teller.tell(x, 0, 1, "span 3;workers 7;"), NONE);
        due("a fault leaves what was told", x.store(1, 0), 5);
        due("its FAULT", x.fault(0), 2);
        due("the tape is empty behind a FAULT", x.end(1), NONE);
        due("fault(2)", x.fault(2), NONE);
        due("fault(-1)", x.fault(-1), NONE);
        takenUnread(x, 0, NONE);
        takenUnread(x, 0, 2);
        takenUnread(x, 0, -2);
        takenUnread(x, 4, NONE);
        takenUnread(x, -1, 0);
        takenUnread(new EpochEngine(), 0, 0);
        due("an empty tape in the place of one", x.text(0, 1), 1);
        due("tells a new STORE", x.store(1, 0), 2);
    }

    /** Where text() answers -2 no text is read, but the tape is taken as ever. */
    private static void takenUnread(EpochEngine x, int sort, int at) {
        String call = "text(" + sort + ", " + at + ")";
        Teller.put(x, "span 0;");
        due(call, x.text(sort, at), NO_SUCH);
        due("FAULT behind " + call, x.fault(0), 0);
        due("place behind " + call, x.fault(1), NONE);
        due("the tape is taken by " + call, x.end(1), NONE);
        due("and begins anew", x.feed(0, 0, 0, 0, 0), 20);
        due("end(0)", x.end(0), 0);
    }

    private static void faultsOfForm() {
        dueFault(0, "", 0, NONE);
        dueFault(0, " \n ", 0, NONE);
        dueFault(0, "span5;workers\n3\n;key 0 00;", 0, NONE);
        dueFault(0, "key0 5;", 0, NONE);
        dueFault(0, "span 5", 1, 6);
        dueFault(0, "span 5  ", 1, 8);
        dueFault(0, "span", 1, 4);
        dueFault(0, "span;", 1, 4);
        dueFault(0, ";", 1, 0);
        dueFault(0, "span 5;;", 1, 7);
        dueFault(0, "spanner 5;", 1, 0);
        dueFault(0, "spa n 5;", 1, 0);
        dueFault(0, "spanz 5;", 1, 0);
        dueFault(0, "spana 5;", 1, 0);
        dueFault(0, "span 5 5;", 1, 7);
        dueFault(0, "span 005;", 1, 5);
        dueFault(0, "key 0 100;", 1, 6);
        dueFault(0, "key 0 1 00;", 1, 8);
        dueFault(0, "5;", 1, 0);
        dueFault(0, "Span 5;", 1, 0);
        dueFault(0, "span\t5;", 1, 4);
        dueFault(0, "span 5,", 1, 6);
        dueFault(0, "span 5:span 5;", 1, 6);
        dueFault(0, "span ,;", 1, 5);
        dueFault(0, "span five;", 1, 5);
        dueFault(0, "span 5 span 5;", 1, 7);
        dueFault(0, ",", 1, 0);
        dueFault(0, "span 5;task;", 1, 7);
        dueFault(0, "span 9;span", 1, 11);
        dueFault(1, "task;put 0;", 1, 10);
        dueFault(1, "task;read 0 0;", 1, 12);
        dueFault(1, "read 10;span", 1, 8);
        dueFault(2, "crash 1;", 1, 6);
        dueFault(2, "begin 0;", 1, 7);
        dueFault(3, "lacks 0 0;", 1, 8);
        dueFault(3, "has 0;", 1, 5);
        dueFault(3, "key 0 0;", 1, 0);
    }

    private static void faultsOfNumbers() {
        dueFault(0, "span 0;", 2, 5);
        dueFault(0, "span 6;", 2, 5);
        dueFault(0, "span 01;span 05;", 0, NONE);
        dueFault(0, "workers 0;", 2, 8);
        dueFault(0, "workers 5;", 2, 8);
        dueFault(0, "workers 1;workers 4;", 0, NONE);
        dueFault(0, "key 10 0;", 2, 4);
        dueFault(0, "key 9 99;", 0, NONE);
        dueFault(0, "key 0 0;span 7;workers 9;", 2, 13);
        dueFault(1, "task;read 10;", 2, 10);
        dueFault(1, "task;cut 10;", 2, 9);
        dueFault(1, "task;save 10;", 2, 10);
        dueFault(1, "task;put 10 0;", 2, 9);
        dueFault(1, "task;add 10 0;", 2, 9);
        dueFault(1, "task;put 9 99;add 9 99;", 0, NONE);
        dueFault(1, "task;scan 4 3;", 2, 12);
        dueFault(1, "task;scan 4 10;", 2, 12);
        dueFault(1, "task;scan 10 3;", 2, 10);
        dueFault(1, "task;scan 4 4;scan 0 9;", 0, NONE);
        dueFault(2, "step 4;", 2, 5);
        dueFault(2, "commit 4;", 2, 7);
        dueFault(2, "quit 4;", 2, 5);
        dueFault(2, "flush 4;", 2, 6);
        dueFault(2, "begin 4 0;", 2, 6);
        dueFault(2, "begin 0 7;", 2, 8);
        dueFault(2, "begin 3 6;step 3;commit 3;quit 3;flush 3;", 0, NONE);
        dueFault(3, "has 10 0;", 2, 4);
        dueFault(3, "lacks 10;", 2, 6);
        dueFault(3, "has 9 99;lacks 9;", 0, NONE);
    }

    private static void faultsOfLimits() {
        dueFault(1, "task;".repeat(7), 0, NONE);
        dueFault(1, "task;".repeat(8), 3, 35);
        dueFault(1, "task;" + "cut 0;".repeat(6) + "task;" + "cut 0;".repeat(6), 0, NONE);
        dueFault(1, "task;" + "cut 0;".repeat(7), 3, 41);
        dueFault(1, "task;" + "cut 0;".repeat(6) + " cut 10;", 3, 42);
        dueFault(1, "read 0;", 3, 0);
        dueFault(1, "read 10;task;", 3, 0);
        dueFault(1, "task;cut 10;" + "cut 0;".repeat(6), 2, 9);
        dueFault(2, "crash;".repeat(40), 0, NONE);
        dueFault(2, "crash;".repeat(41), 3, 240);
        dueFault(2, "step 9;" + "crash;".repeat(40), 2, 5);
        dueFault(3, "lacks 0;".repeat(8), 0, NONE);
        dueFault(3, "lacks 0;".repeat(9), 3, 64);
        dueFault(3, "lacks 0;".repeat(8) + "lacks 10;", 3, 64);
    }

    private static void stores() {
        EpochEngine x = new EpochEngine();
        x.text(0, NONE);
        due("SPAN at first", x.store(0, 0), 2);
        due("WORKERS at first", x.store(0, 1), 2);
        due("KEYS at first", x.store(0, 2), 0);
        due("VALUE at first", x.store(0, 10), NONE);
        Teller.tell(x, 0, NONE, "span 5;key 3 7;workers 4;key 9 0;span 1;key 3 8;workers 3;");
        due("the later span", x.store(1, 0), 1);
        due("the later workers", x.store(1, 1), 3);
        due("KEYS", x.store(1, 2), 1 << 3 | 1 << 9);
        due("the later key 3", x.store(1, 13), 8);
        due("key 9 of VALUE 0", x.store(1, 19), 0);
        for (int what : new int[] {-1, 3, 9, 20, Integer.MAX_VALUE, Integer.MIN_VALUE}) {
            due("store(1, " + what + ")", x.store(1, what), NO_SUCH);
        }
        due("store(2, 0)", x.store(2, 0), NO_SUCH);
        due("store(-1, 0)", x.store(-1, 0), NO_SUCH);
        Teller.tell(x, 0, 1, "");
        due("nothing stays of what stood in the place", x.store(1, 2), 0);
    }

    private static void tasks() {
        EpochEngine x = told("", "task;read 1;cut 2;save 3;put 4 14;add 5 15;scan 6 8;task;");
        due("TASKS", x.task(0, NONE, 0), 2);
        due("TASKS, another what", x.task(0, NONE, 1), NO_SUCH);
        due("STEPS", x.task(0, 0, 0), 6);
        due("STEPS of none", x.task(0, 1, 0), 0);
        int[][] rows = {{0, 1, NONE}, {1, 2, NONE}, {2, 3, NONE}, {3, 4, 14}, {4, 5, 15}, {5, 6, 8}};
        for (int i = 0; i < rows.length; i++) {
            for (int j = 0; j < 3; j++) {
                due("STEP " + i + ", " + j, x.task(0, 0, 10 + 10 * i + j), rows[i][j]);
            }
        }
        for (int what : new int[] {-1, 1, 9, 13, 19, 23, 63, 70, 71, Integer.MAX_VALUE, Integer.MIN_VALUE}) {
            due("task(0, 0, " + what + ")", x.task(0, 0, what), NO_SUCH);
        }
        due("a STEP of a TASK without", x.task(0, 1, 10), NO_SUCH);
        due("no such TASK", x.task(0, 2, 0), NO_SUCH);
        due("TASK -2", x.task(0, -2, 0), NO_SUCH);
        due("no such TASKS", x.task(1, 0, 0), NO_SUCH);
        due("no such TASKS, how many", x.task(1, NONE, 0), NO_SUCH);
    }

    private static void deeds() {
        EpochEngine x = told("", "", "epoch;crash;step 1;commit 2;quit 3;flush 0;begin 1 6;");
        due("DEEDS", x.deed(0, NONE, 0), 7);
        due("DEEDS, another what", x.deed(0, NONE, 1), NO_SUCH);
        int[][] rows = {{0, NONE, NONE}, {1, NONE, NONE}, {2, 1, NONE}, {3, 2, NONE}, {4, 3, NONE}, {5, 0, NONE}, {6, 1, 6}};
        for (int k = 0; k < rows.length; k++) {
            for (int what = 0; what < 3; what++) {
                due("deed(0, " + k + ", " + what + ")", x.deed(0, k, what), rows[k][what]);
            }
            due("deed(0, " + k + ", 3)", x.deed(0, k, 3), NO_SUCH);
            due("deed(0, " + k + ", -1)", x.deed(0, k, -1), NO_SUCH);
        }
        due("deed(0, 7, 0)", x.deed(0, 7, 0), NO_SUCH);
        due("deed(0, -2, 0)", x.deed(0, -2, 0), NO_SUCH);
        due("deed(1, 0, 0)", x.deed(1, 0, 0), NO_SUCH);
    }

    private static void dueStopAndNone(String store, String tasks, String schedule, int want) {
        EpochEngine x = told(store, tasks, schedule);
        due("stop of " + schedule, x.stop(0, 0, 0), want);
        due("stop of no such STORE", x.stop(1, 0, 0), NONE);
        due("stop of no such TASKS", x.stop(0, -1, 0), NONE);
        due("stop of no such SCHEDULE", x.stop(0, 0, 2), NONE);
    }

    private static void stops() {
        dueStopAndNone(STORE, TASKS, CRASHING, 15);
        dueStopAndNone(STORE, TASKS, SERIAL, 13);
        dueStopAndNone("", "", "", 0);
        dueStopAndNone("", "task;", "crash;begin 2 0;", 1);
        dueStopAndNone("workers 3;", "task;", "crash;begin 2 0;", 2);
        dueStopAndNone("", "task;", "begin 0 1;", 0);
        dueStopAndNone("", "task;", "begin 0 0;begin 0 0;", 1);
        dueStopAndNone("", "task;", "begin 0 0;step 0;", 1);
        dueStopAndNone("", "task;cut 0;", "begin 0 0;commit 0;", 1);
        dueStopAndNone("", "task;cut 0;", "begin 0 0;step 0;commit 0;commit 0;", 3);
        dueStopAndNone("", "task;cut 0;", "begin 0 0;step 0;step 0;", 2);
        dueStopAndNone("", "task;cut 0;", "step 0;", 0);
        dueStopAndNone("", "task;cut 0;", "commit 0;", 0);
        dueStopAndNone("", "task;cut 0;", "quit 0;", 0);
        dueStopAndNone("", "task;cut 0;", "begin 0 0;quit 0;quit 0;", 2);
        dueStopAndNone("", "task;cut 0;", "flush 0;flush 1;flush 2;", 2);
        dueStopAndNone("", "task;cut 0;", "begin 1 0;flush 1;step 1;flush 1;commit 1;", 5);
        dueStopAndNone("", "task;", "begin 0 0;crash;begin 0 0;", 3);
        dueStopAndNone("", "task;", "begin 0 0;commit 0;begin 0 0;commit 0;", 4);
        dueStopAndNone("", "task;", "epoch;".repeat(40), 40);
        dueStopAndNone("", "task;", "begin 0 0;epoch;epoch;", 2);
        dueStopAndNone("", "task;", "begin 0 0;epoch;commit 0;epoch;", 4);
        dueStopAndNone("", "task;", "begin 0 0;epoch;quit 0;epoch;", 4);
    }

    private static void statesOfCrash() {
        EpochEngine x = told(STORE, TASKS, CRASHING);
        int[] first = {1, 0, 0, 0, 67, 0};
        int[] before = {2, 0, 2, 1, 69, 2};
        int[] behind = {1, 0, 2, 1, 67, 0};
        for (int what = 0; what < 6; what++) {
            dueState(x, 0, what, first[what]);
            dueState(x, 14, what, before[what]);
            dueState(x, 15, what, behind[what]);
        }
        dueState(x, 5, 50, 0);
        dueState(x, 5, 51, 1);
        dueState(x, 5, 60, 1);
        dueState(x, 5, 61, 2);
        dueState(x, 5, 70, 10);
        dueState(x, 5, 71, 30);
        dueState(x, 7, 50, NONE);
        dueState(x, 7, 60, 0);
        dueState(x, 7, 70, 0);
        dueState(x, 7, 80, 101);
        dueState(x, 7, 90, 1);
        dueState(x, 7, 100, 0);
        dueState(x, 9, 100, 1);
        dueState(x, 7, 10, 15);
        dueState(x, 7, 20, 101);
        dueState(x, 7, 22, 101);
        dueState(x, 7, 40, 1);
        dueState(x, 14, 11, NONE);
        dueState(x, 14, 21, 201);
        dueState(x, 14, 30, 10);
        dueState(x, 14, 31, 20);
        dueState(x, 14, 32, NONE);
        dueState(x, 14, 40, 2);
        dueState(x, 14, 41, 0);
        dueState(x, 15, 20, 0);
        dueState(x, 15, 40, 0);
        dueState(x, 15, 81, 0);
        dueState(x, 15, 91, 0);
        dueState(x, 15, 101, 0);
        for (int what : new int[] {-1, 6, 9, 42, 49, 52, 59, 62, 72, 82, 92, 102, 109, 110, Integer.MAX_VALUE}) {
            dueState(x, 14, what, NO_SUCH);
        }
        dueState(x, 16, 0, NO_SUCH);
        dueState(x, -1, 0, NO_SUCH);
        due("no such STORE", x.state(1, 0, 0, 0, 0), NO_SUCH);
        due("no such TASKS", x.state(0, 1, 0, 0, 0), NO_SUCH);
        due("no such SCHEDULE", x.state(0, 0, 1, 0, 0), NO_SUCH);
        EpochEngine y = told("span 1;workers 4;", "task;", "begin 3 0;step 3;crash;");
        dueState(y, 1, 53, 0);
        dueState(y, 1, 49, 0);
        dueState(y, 1, 54, NO_SUCH);
        dueState(y, 2, 0, NO_SUCH);
    }

    /** What a LOOK reads, guards and sums. */
    private static void looks() {
        EpochEngine x = told("key 0 70;key 2 60;",
                "task;read 0;read 2;read 5;add 0 40;read 0;save 9;task;put 0 1;cut 0;add 0 7;read 0;cut 2;read 2;",
                "begin 0 0;step 0;step 0;step 0;step 0;step 0;step 0;commit 0;begin 1 1;step 1;step 1;step 1;step 1;step 1;"
                        + "step 1;commit 1;");
        int[] sums = {0, 70, 30, 30, 0, 10, 10};
        for (int n = 0; n < sums.length; n++) {
            dueState(x, 1 + n, 70, sums[n]);
        }
        dueState(x, 8, 10, 10);
        dueState(x, 8, 19, 10);
        dueState(x, 13, 71, 7);
        dueState(x, 14, 71, 7);
        dueState(x, 15, 71, 7);
        dueState(x, 16, 10, 7);
        dueState(x, 16, 12, NONE);
        dueState(x, 16, 22, 102);
        // Only the first stamp that was read counts, and only what was not written before is read.
        EpochEngine y = told("key 0 5;", "task;read 0;read 0;task;put 0 6;task;put 0 1;read 0;",
                "begin 0 0;step 0;begin 1 1;step 1;commit 1;step 0;commit 0;",
                "begin 0 2;step 0;begin 1 1;step 1;commit 1;step 0;commit 0;");
        due("the view is what the STORE has now", y.state(0, 0, 0, 6, 70), 11);
        due("it is STALE all the same", y.why(0, 0, 0, 6, 0), 2);
        due("what was written is not read", y.why(0, 0, 1, 6, 0), 1);
    }

    private static void scans() {
        EpochEngine x = told("span 3;key 1 1;key 2 2;key 4 4;key 8 8;", "task;put 3 50;cut 2;scan 1 4;task;put 5 1;task;put 6 1;"
                + "task;put 0 1;task;put 2 9;task;put 1 9;",
                "begin 0 0;step 0;step 0;step 0;begin 1 1;step 1;commit 1;commit 0;");
        dueState(x, 4, 70, 55);
        due("a further key of a node", x.why(0, 0, 0, 7, 0), 3);
        due("the NODE", x.why(0, 0, 0, 7, 1), 1);
        due("the DEED", x.why(0, 0, 0, 7, 2), 6);
        due("of no STAMP", x.why(0, 0, 0, 7, 3), NONE);
        int[] verdicts = {3, 1, 3, 1, 2};
        for (int t = 1; t <= 5; t++) {
            String other = "begin 0 0;step 0;step 0;step 0;begin 1 " + t + ";step 1;commit 1;commit 0;";
            due("text", Teller.tell(x, 2, 0, other), 0);
            due("scan against TASK " + t, x.why(0, 0, 0, 7, 0), verdicts[t - 1]);
        }
        // A scan guards its nodes even where it finds nothing.
        EpochEngine y = told("span 2;", "task;scan 2 5;task;put 4 1;task;put 6 1;", "begin 0 0;step 0;begin 1 1;step 1;commit 1;commit 0;",
                "begin 0 0;step 0;begin 1 2;step 1;commit 1;commit 0;");
        due("an empty scan is guarded", y.why(0, 0, 0, 5, 0), 3);
        due("its NODE", y.why(0, 0, 0, 5, 1), 2);
        due("but not behind its end", y.why(0, 0, 1, 5, 0), 1);
    }

    private static void stamps() {
        EpochEngine x = told("workers 3;key 0 1;", "task;put 0 1;task;cut 0;task;read 0;put 5 1;task;task;put 7 7;",
                "begin 0 0;step 0;commit 0;begin 1 1;step 1;commit 1;begin 2 0;step 2;commit 2;begin 1 2;step 1;step 1;commit 1;"
                        + "begin 0 3;commit 0;epoch;begin 0 3;commit 0;begin 2 4;step 2;commit 2;begin 0 3;commit 0;");
        int[][] made = {{2, 101}, {5, 102}, {8, 103}, {12, 104}, {14, 102}, {17, 201}, {20, 201}, {22, 202}};
        for (int[] row : made) {
            due("STAMP of DEED " + row[0], x.why(0, 0, 0, row[0], 3), row[1]);
        }
        dueState(x, 6, 10, NONE);
        dueState(x, 6, 20, 102);
        dueState(x, 23, 80, 202);
        dueState(x, 23, 81, 104);
        dueState(x, 23, 82, 201);
        dueState(x, 23, 90, 4);
        dueState(x, 23, 40, 2);
    }

    private static void epochs() {
        EpochEngine x = told("", "task;", "begin 0 0;epoch;commit 0;epoch;flush 0;flush 1;crash;");
        dueState(x, 2, 0, 2);
        due("a commit is of its EPOCH then", x.why(0, 0, 0, 2, 3), 201);
        dueState(x, 4, 0, 3);
        dueState(x, 5, 1, 0);
        dueState(x, 6, 1, 2);
        dueState(x, 7, 0, 3);
        dueState(x, 7, 1, 2);
        dueState(x, 7, 90, 1);
    }

    private static void durable() {
        EpochEngine x = told("workers 2;", "task;put 0 1;task;put 0 2;task;put 1 3;",
                "begin 0 0;step 0;commit 0;epoch;begin 0 1;step 0;commit 0;flush 0;flush 1;epoch;begin 1 2;step 1;commit 1;"
                        + "begin 0 0;flush 1;");
        dueState(x, 8, 1, 0);
        dueState(x, 9, 1, 1);
        dueState(x, 9, 5, 1);
        dueState(x, 9, 10, 2);
        dueState(x, 9, 30, 1);
        dueState(x, 13, 5, 2);
        dueState(x, 15, 1, 1);
        dueState(x, 15, 5, 2);
        dueState(x, 15, 91, 1);
        dueState(x, 15, 101, 1);
        dueState(x, 15, 100, 2);
        dueState(x, 15, 31, NONE);
    }

    private static void recovery() {
        EpochEngine x = told("key 3 3;", "task;put 0 1;cut 3;task;put 0 2;",
                "begin 0 0;step 0;step 0;commit 0;begin 1 1;step 1;commit 1;epoch;flush 0;flush 1;begin 1 1;step 1;crash;"
                        + "begin 0 1;step 0;commit 0;crash;");
        dueState(x, 12, 40, 1);
        dueState(x, 13, 0, 2);
        dueState(x, 13, 1, 1);
        dueState(x, 13, 10, 2);
        dueState(x, 13, 20, 102);
        dueState(x, 13, 13, NONE);
        dueState(x, 13, 23, 101);
        dueState(x, 13, 40, 0);
        dueState(x, 13, 41, 0);
        dueState(x, 13, 51, NONE);
        dueState(x, 13, 80, 0);
        dueState(x, 13, 90, 1);
        dueState(x, 13, 101, 1);
        dueState(x, 16, 20, 201);
        dueState(x, 16, 90, 2);
        dueState(x, 16, 100, 1);
        dueState(x, 17, 20, 102);
        dueState(x, 17, 90, 1);
        dueState(x, 17, 0, 2);
        due("COMMITS that no crash took", x.serial(0, 0, 0, 0), 2);
        due("WASTED by a crash", x.after(0, 0, 0, 2), 1);
        due("GONE", x.after(0, 0, 0, 4), 1);
        due("CRASHES", x.after(0, 0, 0, 3), 2);
        due("TOP", x.after(0, 0, 0, 5), 102);
    }

    private static void whyRefused() {
        EpochEngine x = told(STORE, TASKS, CRASHING);
        int[][] rows = {{0, 0, NONE, NONE, NONE}, {6, 1, NONE, NONE, 101}, {7, 2, 0, 6, NONE}, {12, 1, NONE, NONE, 201},
            {14, 0, NONE, NONE, NONE}};
        for (int[] row : rows) {
            for (int what = 0; what < 4; what++) {
                due("why(" + row[0] + ", " + what + ")", x.why(0, 0, 0, row[0], what), row[1 + what]);
            }
        }
        due("why at STOP", x.why(0, 0, 0, 15, 0), NO_SUCH);
        due("why at -1", x.why(0, 0, 0, -1, 0), NO_SUCH);
        due("why, what 4", x.why(0, 0, 0, 6, 4), NO_SUCH);
        due("why, what -1", x.why(0, 0, 0, 6, -1), NO_SUCH);
        due("why of no such STORE", x.why(1, 0, 0, 0, 0), NO_SUCH);
        due("why of no such TASKS", x.why(0, 1, 0, 0, 0), NO_SUCH);
        due("why of no such SCHEDULE", x.why(0, 0, 1, 0, 0), NO_SUCH);
        // Keys are checked before nodes, the lesser first; the last commit that wrote counts, whatever it wrote.
        EpochEngine y = told("workers 3;key 3 1;key 8 1;", "task;read 8;read 3;read 0;task;put 0 1;put 3 1;put 8 1;task;put 3 1;",
                "begin 0 0;step 0;step 0;step 0;begin 1 1;step 1;step 1;step 1;commit 1;begin 2 2;step 2;commit 2;commit 0;");
        due("STALE ahead of a PHANTOM", y.why(0, 0, 0, 12, 0), 2);
        due("the lesser KEY", y.why(0, 0, 0, 12, 1), 3);
        due("the last that wrote it", y.why(0, 0, 0, 12, 2), 11);
        // A key cut and put again is STALE by its stamp; the last change of the node's version may be another deed.
        EpochEngine z = told("workers 3;", "task;read 0;task;put 0 1;task;put 0 2;",
                "begin 0 0;step 0;begin 1 1;step 1;commit 1;begin 2 2;step 2;commit 2;commit 0;");
        due("a PHANTOM", z.why(0, 0, 0, 8, 0), 3);
        due("by the deed that brought the key", z.why(0, 0, 0, 8, 2), 4);
        due("a key that is cut is STALE", staleByCut(), 2);
    }

    private static int staleByCut() {
        EpochEngine x = told("key 0 1;", "task;read 0;task;cut 0;", "begin 0 0;step 0;begin 1 1;step 1;commit 1;commit 0;");
        return x.why(0, 0, 0, 5, 0);
    }

    private static void serialOrders() {
        EpochEngine x = told(STORE, TASKS, SERIAL, CRASHING);
        int[][] rows = {{0, 3}, {1, 6}, {10, 3}, {11, 0}, {12, 1}, {13, NONE}, {20, 101}, {21, 101}, {22, 102}, {23, NONE},
            {30, 0}, {31, 0}, {32, 3}, {33, NONE}, {50, 0}, {51, 1}, {52, 2}, {53, NONE}, {59, NONE}, {60, NONE}, {40, NONE},
            {2, NONE}, {9, NONE}, {-1, NONE}, {Integer.MIN_VALUE, NONE}};
        for (int[] row : rows) {
            due("serial(0, 0, 0, " + row[0] + ")", x.serial(0, 0, 0, row[0]), row[1]);
        }
        due("COMMITS behind a crash", x.serial(0, 0, 1, 0), 0);
        due("SERIAL of none", x.serial(0, 0, 1, 1), 1);
        due("the first row of none", x.serial(0, 0, 1, 50), NONE);
        due("no such STORE", x.serial(1, 0, 0, 0), NONE);
        due("no such TASKS", x.serial(0, 1, 0, 0), NONE);
        due("no such SCHEDULE", x.serial(0, 0, 2, 0), NONE);
        // put 0 1, then add 0 1: only that order leads to 2.
        EpochEngine y = told("key 0 5;", "task;add 0 1;task;put 0 1;", "begin 0 1;step 0;commit 0;begin 0 0;step 0;commit 0;",
                "begin 0 0;step 0;commit 0;begin 0 0;step 0;commit 0;begin 0 1;step 0;commit 0;");
        due("SERIAL", y.serial(0, 0, 0, 1), 1);
        due("HANGS", y.serial(0, 0, 0, 31), 1);
        due("the first of the one row", y.serial(0, 0, 0, 50), 0);
        due("the second of the one row", y.serial(0, 0, 0, 51), 1);
        due("rows of the same TASK count each", y.serial(0, 0, 1, 1), 2);
        due("blind writes hang, too", y.serial(0, 0, 1, 32), 3);
        // Seven are too many for rows, though each is told; six are not.
        EpochEngine z = told("", "task;", "begin 0 0;commit 0;".repeat(7), "begin 0 0;commit 0;".repeat(6));
        due("7 COMMITS", z.serial(0, 0, 0, 0), 7);
        due("SERIAL of 7", z.serial(0, 0, 0, 1), NONE);
        due("a row of 7", z.serial(0, 0, 0, 50), NONE);
        due("the TASK of the last of 7", z.serial(0, 0, 0, 16), 0);
        due("SERIAL of 6", z.serial(0, 0, 1, 1), 720);
        due("the row of 6", z.serial(0, 0, 1, 55), 5);
        // A reader leads to the same in either order, but it hangs on whom it read.
        EpochEngine r = told("key 0 5;", "task;read 0;task;put 0 1;", "begin 0 1;step 0;commit 0;begin 1 0;step 1;commit 1;");
        due("SERIAL of a reader", r.serial(0, 0, 0, 1), 2);
        due("a reader HANGS on what it READ", r.serial(0, 0, 0, 31), 1);
        // A guard hangs on the commit that changed its node.
        EpochEngine g = told("span 5;", "task;put 3 1;task;read 0;task;put 3 2;", "begin 0 0;step 0;commit 0;begin 0 1;step 0;"
                + "commit 0;begin 0 2;step 0;commit 0;begin 0 1;step 0;commit 0;");
        due("HANGS by a node", g.serial(0, 0, 0, 31), 1);
        due("HANGS not by a value of it", g.serial(0, 0, 0, 33), 1);
    }

    private static void facts() {
        EpochEngine x = new EpochEngine();
        Teller.tell(x, 3, NONE, "has 3 5;lacks 3;has 3 6;");
        due("FACTS", x.fact(0, NONE, 0), 3);
        int[][] rows = {{3, 5}, {3, NONE}, {3, 6}};
        for (int k = 0; k < 3; k++) {
            due("KEY of FACT " + k, x.fact(0, k, 0), rows[k][0]);
            due("VALUE of FACT " + k, x.fact(0, k, 1), rows[k][1]);
            due("FACT " + k + ", 2", x.fact(0, k, 2), NO_SUCH);
            due("FACT " + k + ", -1", x.fact(0, k, -1), NO_SUCH);
        }
        due("FACT 3", x.fact(0, 3, 0), NO_SUCH);
        due("FACT -2", x.fact(0, -2, 0), NO_SUCH);
        due("FACTS, 1", x.fact(0, NONE, 1), NO_SUCH);
        due("no such DIARY", x.fact(1, NONE, 0), NO_SUCH);
    }

    private static void dueFits(EpochEngine x, int diary, int... whatAndWant) {
        for (int i = 0; i < whatAndWant.length; i += 2) {
            int what = whatAndWant[i];
            due("fits(0, 0, 0, " + diary + ", " + what + ")", x.fits(0, 0, 0, diary, what), whatAndWant[i + 1]);
        }
    }

    private static void fitting() {
        EpochEngine x = told(STORE, TASKS, SERIAL);
        Teller.tell(x, 3, NONE, "has 0 15;");
        Teller.tell(x, 3, NONE, "has 0 10;lacks 3;");
        dueFits(x, 0, 0, 1, 1, 0, 2, 2, 3, 1, 4, 1, 5, NONE, 6, NONE, 10, 3, 11, NO_SUCH, 7, NO_SUCH, 9, NO_SUCH, -1, NO_SUCH);
        dueFits(x, 1, 0, 3, 1, 0, 2, 0, 3, NONE, 4, NONE, 10, 0, 11, 1, 12, 2, 13, NO_SUCH);
        Teller.tell(x, 3, 0, "has 0 10;has 0 15;");
        dueFits(x, 0, 0, 0, 1, NONE, 2, NONE, 3, NONE, 4, NONE, 10, NO_SUCH);
        due("no such STORE", x.fits(1, 0, 0, 0, 0), NO_SUCH);
        due("no such TASKS", x.fits(0, 1, 0, 0, 0), NO_SUCH);
        due("no such SCHEDULE", x.fits(0, 0, 1, 0, 0), NO_SUCH);
        due("no such DIARY", x.fits(0, 0, 0, 2, 0), NO_SUCH);
        // Worker 0 is flushed in epoch 2: then it hangs on worker 1 alone whether epoch 1 is whole.
        EpochEngine y = told("", "task;put 5 1;task;put 6 1;", "begin 0 0;step 0;commit 0;begin 1 1;step 1;commit 1;epoch;flush 0;");
        Teller.tell(y, 3, NONE, "has 5 1;");
        Teller.tell(y, 3, NONE, "");
        dueFits(y, 0, 0, 2, 1, 0, 2, 1, 3, NONE, 4, 1, 10, 2, 11, 3);
        dueFits(y, 1, 0, 4, 1, 5, 2, 0, 3, NONE, 4, NONE, 13, 3, 14, NO_SUCH);
        Teller.tell(y, 3, 0, "lacks 5;");
        dueFits(y, 0, 0, 2, 4, 0, 10, 0, 11, 1);
        // What was committed in this epoch is lost even if all are flushed.
        Teller.tell(y, 2, 0, "begin 0 0;step 0;commit 0;");
        dueFits(y, 0, 0, 4, 10, 0, 13, 3);
    }

    private static void drawing() {
        EpochEngine x = told(STORE, TASKS);
        int[] seeds = {0, 1, -1, 77, Integer.MIN_VALUE};
        for (int seed : seeds) {
            due("no draw", x.drawn(0, 0, seed, 0, 0), 1);
            due("the first draw", x.drawn(0, 0, seed, 1, 50), firstDrawBegins(seed, 0));
            due("the first draw", x.drawn(0, 0, seed, 1, 51), firstDrawBegins(seed, 1));
        }
        for (int what : new int[] {5, 30, 39, 6, -1, 42, 52, 110}) {
            due("drawn, what " + what, x.drawn(0, 0, 1, 10, what), NO_SUCH);
        }
        due("n 61", x.drawn(0, 0, 1, 61, 0), NO_SUCH);
        due("n -1", x.drawn(0, 0, 1, -1, 0), NO_SUCH);
        due("no such STORE", x.drawn(1, 0, 1, 1, 0), NO_SUCH);
        due("no such TASKS", x.drawn(0, 1, 1, 1, 0), NO_SUCH);
        EpochEngine y = told("", "");
        due("without TASKS nothing is begun", y.drawn(0, 0, 5, 60, 2), 0);
        int epoch = 1;
        for (int n = 0; n <= 60; n++) {
            epoch = Math.max(epoch, y.drawn(0, 0, 5, n, 0));
        }
        due("but epochs turn", epoch > 1, true);
    }

    private static int firstDrawBegins(int seed, int worker) {
        int x = seed * 1103515245 + 12345;
        if ((x >>> 16) % 12 > 2) {
            return NONE;
        }
        x = x * 1103515245 + 12345;
        int w = (x >>> 16) % 2;
        x = x * 1103515245 + 12345;
        return w == worker ? (x >>> 16) % 4 : NONE;
    }

    private static void keysOfTasks() {
        EpochEngine x = told("", "task;read 1;cut 2;save 3;put 4 0;add 5 0;scan 6 8;task;put 9 1;read 9;task;put 0 1;task;"
                + "task;save 4;");
        due("READS", x.keys(0, 0, 0), 1 << 1 | 1 << 5 | 7 << 6);
        due("WRITES", x.keys(0, 0, 1), 1 << 2 | 1 << 3 | 1 << 4 | 1 << 5);
        due("READS of what it wrote", x.keys(0, 1, 0), 1 << 9);
        due("keys, what 2", x.keys(0, 0, 2), NONE);
        due("keys, what -1", x.keys(0, 0, -1), NONE);
        due("keys of no TASK", x.keys(0, 5, 0), NONE);
        due("keys of TASK -1", x.keys(0, -1, 0), NONE);
        due("keys of no TASKS", x.keys(1, 0, 0), NONE);
        due("FREE", x.free(0, 0), 9);
        due("BLINDS", x.free(0, 1), 1 << 2 | 1 << 4);
        due("free, what 2", x.free(0, 2), NONE);
        due("free, what -1", x.free(0, -1), NONE);
        due("free of no TASKS", x.free(1, 0), NONE);
        EpochEngine y = told("", "task;scan 0 9;task;put 9 0;task;read 3;task;add 3 1;");
        due("FREE of readers", y.free(0, 0), 3);
    }

    private static void aloneAndSwaps() {
        EpochEngine x = told("key 0 90;key 3 4;", "task;add 0 15;read 0;scan 1 4;save 9;cut 3;task;put 3 1;task;add 0 1;task;scan 0 9;"
                + "save 5;task;cut 3;");
        due("SUM", x.alone(0, 0, 0, 0), 99);
        int[] values = {5, NONE, NONE, NONE, NONE, NONE, NONE, NONE, NONE, 99};
        for (int k = 0; k < 10; k++) {
            due("VALUE of " + k, x.alone(0, 0, 0, 10 + k), values[k]);
        }
        due("alone, what 1", x.alone(0, 0, 0, 1), NO_SUCH);
        due("alone, what 20", x.alone(0, 0, 0, 20), NO_SUCH);
        due("alone, what -1", x.alone(0, 0, 0, -1), NO_SUCH);
        due("alone of no TASK", x.alone(0, 0, 5, 0), NO_SUCH);
        due("alone of no TASKS", x.alone(0, 1, 0, 0), NO_SUCH);
        due("alone of no STORE", x.alone(1, 0, 0, 0), NO_SUCH);
        // TASKS 1 and 2, 2 and 4: all others save what the other one changes, or write the same key.
        due("SWAPS", x.swaps(0, 0), 2);
        due("swaps of no STORE", x.swaps(1, 0), NONE);
        due("swaps of no TASKS", x.swaps(0, 1), NONE);
        EpochEngine y = told("key 0 0;", "task;put 0 1;task;put 0 1;task;put 0 2;");
        due("SWAPS of the same", y.swaps(0, 0), 1);
    }

    private static void dueWeave(EpochEngine x, int a, int b, int... want) {
        int[] got = new int[5];
        for (int what = 0; what < 5; what++) {
            got[what] = x.weave(0, 0, a, b, what);
        }
        due("weave " + a + ", " + b + ": " + Arrays.toString(got) + ", due " + Arrays.toString(want), Arrays.equals(got, want), true);
    }

    private static void weaving() {
        EpochEngine x = told("workers 1;span 2;key 0 1;", "task;add 0 1;task;read 5;put 5 1;task;put 0 9;task;task;read 0;read 0;"
                + "task;scan 0 9;put 8 1;put 9 1;cut 0;cut 1;cut 2;");
        dueWeave(x, 0, 0, 2, 2, 0, 0, 0);
        dueWeave(x, 1, 1, 6, 2, 2, 2, 4);
        dueWeave(x, 0, 2, 2, 2, 0, 0, 0);
        dueWeave(x, 4, 2, 3, 2, 1, 0, 0);
        dueWeave(x, 2, 4, 3, 2, 0, 1, 0);
        dueWeave(x, 3, 3, 1, 1, 0, 0, 0);
        dueWeave(x, 3, 4, 1, 1, 0, 0, 0);
        dueWeave(x, 4, 3, 1, 1, 0, 0, 0);
        due("924 rows", x.weave(0, 0, 5, 5, 0), 924);
        due("RISK of 0", x.risk(0, 0, 0), 0);
        due("RISK of 1", x.risk(0, 0, 1), 1 << 1);
        due("RISK of 4", x.risk(0, 0, 4), 1 << 0 | 1 << 2 | 1 << 5);
        due("RISK of 3", x.risk(0, 0, 3), 0);
        due("weave, what 5", x.weave(0, 0, 0, 0, 5), NONE);
        due("weave, what -1", x.weave(0, 0, 0, 0, -1), NONE);
        due("weave of no first", x.weave(0, 0, 6, 0, 0), NONE);
        due("weave of no second", x.weave(0, 0, 0, -1, 0), NONE);
        due("weave of no TASKS", x.weave(0, 1, 0, 0, 0), NONE);
        due("weave of no STORE", x.weave(1, 0, 0, 0, 0), NONE);
        due("risk of no TASK", x.risk(0, 0, 6), NONE);
        due("risk of no TASKS", x.risk(0, 1, 0), NONE);
        due("risk of no STORE", x.risk(1, 0, 0), NONE);
    }

    private static void afterAll() {
        EpochEngine x = told(STORE, TASKS, CRASHING, "begin 0 0;step 0;quit 0;step 0;");
        int[] first = {0, 0, 2, 1, 2, 0, NO_SUCH};
        int[] second = {NONE, NONE, 1, 0, 0, 0, NO_SUCH};
        for (int what = 0; what < 7; what++) {
            due("after(0, 0, 0, " + what + ")", x.after(0, 0, 0, what), first[what]);
            due("after(0, 0, 1, " + what + ")", x.after(0, 0, 1, what), second[what]);
        }
        due("after, what -1", x.after(0, 0, 0, -1), NO_SUCH);
        due("after of no STORE", x.after(1, 0, 0, 0), NO_SUCH);
        due("after of no TASKS", x.after(0, 1, 0, 0), NO_SUCH);
        due("after of no SCHEDULE", x.after(0, 0, 2, 0), NO_SUCH);
        EpochEngine y = told("key 4 4;key 5 5;", "task;task;read 5;task;put 5 1;task;read 4;task;cut 4;",
                "begin 0 0;commit 0;begin 0 2;step 0;begin 1 1;step 1;commit 0;commit 1;begin 0 2;step 0;commit 0;"
                        + "begin 1 3;step 1;begin 0 4;step 0;commit 0;commit 1;");
        due("OFTEN", y.after(0, 0, 0, 0), 2);
        due("HOT, the least", y.after(0, 0, 0, 1), 4);
        due("WASTED", y.after(0, 0, 0, 2), 2);
        due("TOP of a key that was cut", y.after(0, 0, 0, 5), 104);
    }

    private static void counts() {
        EpochEngine x = told("", "", "", "");
        int[] want = {1, 1, 2, 0};
        for (int sort = 0; sort < 4; sort++) {
            due("count(" + sort + ")", x.count(sort), want[sort]);
        }
        due("count(4)", x.count(4), NO_SUCH);
        due("count(-1)", x.count(-1), NO_SUCH);
        due("count(MIN)", x.count(Integer.MIN_VALUE), NO_SUCH);
    }

    private static void images() {
        EpochEngine x = told(STORE, TASKS, SERIAL);
        Teller.tell(x, 3, NONE, "has 9 1");
        Teller.put(x, "span 3;");
        due("image(0)", x.image(0), true);
        due("image(3)", x.image(3), false);
        due("image(-1)", x.image(-1), false);
        due("again(1), which is none", x.again(1), false);
        due("again(3)", x.again(3), false);
        due("again(-1)", x.again(-1), false);
        due("the tape goes on", x.text(0, 0), 0);
        Teller.tell(x, 1, 0, "task;");
        Teller.tell(x, 2, 0, "crash;");
        Teller.tell(x, 3, NONE, "has 9 1;");
        due("image(2)", x.image(2), true);
        due("another SPAN", x.store(0, 0), 3);
        due("again(0)", x.again(0), true);
        due("FAULT of the image", x.fault(0), 1);
        due("place of the image", x.fault(1), 7);
        due("SPAN of the image", x.store(0, 0), 5);
        due("KEYS of the image", x.store(0, 2), 67);
        due("TASKS of the image", x.task(0, NONE, 0), 4);
        due("STEP of the image", x.task(0, 3, 21), 3);
        due("DEEDS of the image", x.deed(0, NONE, 0), 13);
        due("DIARIES of the image", x.count(3), 0);
        due("the tape of the image", x.text(0, 0), 0);
        due("its SPAN", x.store(0, 0), 3);
        due("again(0) once more", x.again(0), true);
        due("an image does not change", x.store(0, 0), 5);
        due("again(2)", x.again(2), true);
        due("DIARIES of the other", x.fact(0, 0, 0), 9);
        due("the FAULT of the other", x.fault(0), 0);
        due("the tape of the other", x.end(1), NONE);
        imageOfAll();
    }

    /** An image of the greatest texts, all overwritten then, so that nothing is left of them but the image. */
    private static void imageOfAll() {
        String[][] texts = {{"span 3;workers 4;key 0 1;key 9 2;", "span 4;workers 1;key 5 6;"},
            {("task;" + "add 9 7;".repeat(6)).repeat(7), ("task;" + "cut 1;".repeat(6)).repeat(7)},
            {"begin 3 6;".repeat(40), "quit 1;".repeat(40)},
            {"has 9 99;".repeat(8), "lacks 7;".repeat(8)}};
        EpochEngine x = new EpochEngine();
        for (int sort = 0; sort < 4; sort++) {
            due("text", Teller.tell(x, sort, NONE, texts[sort][0]), 0);
            due("text", Teller.tell(x, sort, NONE, texts[sort][1]), 1);
        }
        String before = all(x);
        due("image(1)", x.image(1), true);
        for (int sort = 0; sort < 4; sort++) {
            due("text", Teller.tell(x, sort, 0, texts[sort][1]), 0);
            due("text", Teller.tell(x, sort, 1, texts[sort][0]), 1);
        }
        due("all is otherwise", all(x).equals(before), false);
        due("again(1)", x.again(1), true);
        due("all is as it was", all(x).equals(before), true);
    }

    private static String all(EpochEngine x) {
        StringBuilder b = new StringBuilder();
        for (int i = 0; i < 2; i++) {
            for (int k = -1; k < 41; k++) {
                for (int what = 0; what < 70; what++) {
                    b.append(x.store(i, what)).append(' ').append(x.task(i, k, what)).append(' ');
                    b.append(x.deed(i, k, what)).append(' ').append(x.fact(i, k, what)).append(' ');
                }
            }
        }
        return b.toString();
    }
}
