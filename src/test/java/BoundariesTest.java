import java.util.function.IntUnaryOperator;
import java.util.function.Supplier;

/** Promises 1 to 25, sentence by sentence: every argument far below and far above what there is, refused calls, full and empty. */
public final class BoundariesTest extends Answers {
    /** One call, of which one argument is tried. */
    private interface Question {
        int ask(EpochEngine x, int n);
    }

    private static final String STORE = "span 3;workers 3;key 0 10;key 1 20;key 6 5;";
    private static final String TASKS = "task;add 0 5;save 2;task;scan 0 4;put 7 1;task;put 4 7;task;";
    // 6 commits; 7 is refused as STALE by it; 13 commits; 14 is refused by a PHANTOM; 17 commits, 21 takes it away; 24 can't be.
    private static final String SCHEDULE = "begin 0 0;step 0;begin 1 1;step 1;step 1;step 0;commit 0;commit 1;"
            + "begin 1 1;step 1;step 1;begin 2 2;step 2;commit 2;commit 1;epoch;begin 1 3;commit 1;flush 0;flush 1;flush 2;crash;"
            + "begin 1 0;step 1;step 0;epoch;";
    private static final String DIARY = "has 0 15;lacks 9;has 4 7;";

    private BoundariesTest() {
    }

    public static void main(String[] args) {
        newObject();
        feeds();
        ends();
        texts();
        textsInPlaces();
        textsRefused();
        faults();
        stores();
        tasks();
        deeds();
        stops();
        states();
        whys();
        inTurns();
        shorterRuns();
        serials();
        facts();
        fits();
        draws();
        keys();
        frees();
        alones();
        swaps();
        weaves();
        risks();
        afters();
        counts();
        images();
        agains();
        finish("BoundariesTest");
    }

    /** One STORE, one text of TASKS, one SCHEDULE, one DIARY. */
    private static EpochEngine one() {
        EpochEngine x = told(STORE, TASKS, SCHEDULE);
        due("text of a DIARY", Teller.tell(x, 3, NONE, DIARY), 0);
        return x;
    }

    /** Two of each sort, the second of each empty. */
    private static EpochEngine two() {
        EpochEngine x = one();
        for (int sort = 0; sort < 4; sort++) {
            due("an empty text of sort " + sort, x.text(sort, NONE), 1);
        }
        return x;
    }

    /** Numbers near to what may be, and such as would come back to it by a wrap-around. */
    private static int[] numbers() {
        int[] far = {Integer.MIN_VALUE, Integer.MIN_VALUE + 1, Integer.MIN_VALUE + 10, -65536, -1000, -257, -256, -255, 255, 256, 257, 600, 1000,
            65535, 65536, 65537, 1 << 24, (1 << 30) + 1, Integer.MAX_VALUE - 9, Integer.MAX_VALUE - 1, Integer.MAX_VALUE};
        int[] all = new int[131 + 60 + far.length];
        for (int i = 0; i < 191; i++) {
            all[i] = i - 60;
        }
        System.arraycopy(far, 0, all, 191, far.length);
        return all;
    }

    /** Asks with every number; a new object each hundred times, for it is good for 512 calls. */
    private static void sweep(String call, Supplier<EpochEngine> maker, Question question, IntUnaryOperator want) {
        EpochEngine x = maker.get();
        int asked = 0;
        for (int n : numbers()) {
            if (asked == 100) {
                x = maker.get();
                asked = 0;
            }
            asked++;
            due(call.replace("?", "" + n), question.ask(x, n), want.applyAsInt(n));
        }
    }

    /** What stands at n of a row that begins at 0; else what is due beside it. */
    private static IntUnaryOperator row(int beside, int... answers) {
        return n -> n >= 0 && n < answers.length ? answers[n] : beside;
    }

    /** Couples of a number and what is due there; else what is due beside them. */
    private static IntUnaryOperator at(int beside, int... couples) {
        return n -> {
            for (int i = 0; i < couples.length; i += 2) {
                if (couples[i] == n) {
                    return couples[i + 1];
                }
            }
            return beside;
        };
    }

    private static void newObject() {
        under("promise 1: no STORES, TASKS, SCHEDULES, DIARIES");
        EpochEngine x = new EpochEngine();
        for (int sort = 0; sort < 4; sort++) {
            due("count(" + sort + ")", x.count(sort), 0);
        }
        due("store", x.store(0, 0), NO_SUCH);
        due("task", x.task(0, NONE, 0), NO_SUCH);
        due("deed", x.deed(0, NONE, 0), NO_SUCH);
        due("stop", x.stop(0, 0, 0), NONE);
        due("state", x.state(0, 0, 0, 0, 0), NO_SUCH);
        due("why", x.why(0, 0, 0, 0, 0), NO_SUCH);
        due("serial", x.serial(0, 0, 0, 0), NONE);
        due("fact", x.fact(0, NONE, 0), NO_SUCH);
        due("fits", x.fits(0, 0, 0, 0, 0), NO_SUCH);
        due("drawn", x.drawn(0, 0, 0, 0, 0), NO_SUCH);
        due("keys", x.keys(0, 0, 0), NONE);
        due("free", x.free(0, 0), NONE);
        due("alone", x.alone(0, 0, 0, 0), NO_SUCH);
        due("swaps", x.swaps(0, 0), NONE);
        due("weave", x.weave(0, 0, 0, 0, 0), NONE);
        due("risk", x.risk(0, 0, 0), NONE);
        due("after", x.after(0, 0, 0, 0), NO_SUCH);
        under("promise 1: no images; the tape is empty, no FAULT");
        for (int k = -1; k < 4; k++) {
            due("again(" + k + ")", x.again(k), false);
        }
        due("fault(0)", x.fault(0), 0);
        due("fault(1)", x.fault(1), NONE);
        due("end(0)", x.end(0), 0);
        due("end(1)", x.end(1), NONE);
        under("promise 1: objects have nothing in common");
        EpochEngine y = two();
        due("again(0)", y.again(0), false);
        due("image(0)", y.image(0), true);
        EpochEngine z = new EpochEngine();
        due("count(0)", z.count(0), 0);
        due("again(0)", z.again(0), false);
    }

    private static void feeds() {
        under("promise 2: twenty bytes come behind it: how many it has; NONE if there would be more than 600");
        for (int first = 0; first <= 20; first++) {
            EpochEngine x = new EpochEngine();
            x.feed(0, 0, 0, 0, 0);
            int length = x.end(first);
            for (int i = 0; i < 35; i++) {
                boolean fits = length + 20 <= 600;
                due("feed at " + length, x.feed(-1, i, -i, Integer.MIN_VALUE, Integer.MAX_VALUE), fits ? length + 20 : NONE);
                length += fits ? 20 : 0;
            }
            under("promise 2: NONE, and nothing comes");
            due("end of one more", x.end(length + 1), NONE);
            due("end of all", x.end(length), length);
            under("promise 2: twenty bytes come behind it: how many it has; NONE if there would be more than 600");
        }
        under("promise 2: of each number the highest byte first");
        EpochEngine y = new EpochEngine();
        // "key 1 11;key 9 99;" and two blanks
        due("feed", y.feed(0x6b657920, 0x31203131, 0x3b6b6579, 0x20392039, 0x393b2020), 20);
        due("text", y.text(0, NONE), 0);
        due("KEY 1", y.store(0, 11), 11);
        due("KEY 9", y.store(0, 19), 99);
        under("promise 2: a byte above 127 is one byte, no sign goes over to the others");
        for (int at = 0; at < 20; at++) {
            EpochEngine z = new EpochEngine();
            int[] five = new int[5];
            for (int i = 0; i < 20; i++) {
                five[i / 4] = five[i / 4] << 8 | (i == at ? 0xff : 0x20);
            }
            z.feed(five[0], five[1], five[2], five[3], five[4]);
            due("text", z.text(0, NONE), NONE);
            due("FAULT", z.fault(0), 1);
            due("its place", z.fault(1), at);
        }
        under("promise 2: NONE, and nothing comes: what was there is as it was");
        EpochEngine v = new EpochEngine();
        Teller.put(v, "span 5;" + " ".repeat(593));
        due("feed at 600", v.feed(0, 0, 0, 0, 0), NONE);
        due("text", v.text(0, NONE), 0);
        due("SPAN", v.store(0, 0), 5);
    }

    private static void ends() {
        under("promise 3: the first n bytes alone: n; NONE if it has not so many, or n is below 0");
        for (int length : new int[] {0, 20, 40, 600}) {
            for (int n : numbers()) {
                EpochEngine x = blanks(length);
                boolean fits = n >= 0 && n <= length;
                due("end(" + n + ") of " + length, x.end(n), fits ? n : NONE);
                due("how many there are then", x.end(fits ? n + 1 : length + 1), NONE);
                due("and are", x.end(fits ? n : length), fits ? n : length);
            }
        }
        under("promise 3: NONE: the tape is as it was");
        EpochEngine y = new EpochEngine();
        Teller.put(y, "span 5;");
        due("end(8)", y.end(8), NONE);
        due("end(-1)", y.end(-1), NONE);
        due("text", y.text(0, NONE), 0);
        due("SPAN", y.store(0, 0), 5);
        under("promise 3: what comes next comes behind the n bytes");
        EpochEngine z = new EpochEngine();
        Teller.put(z, "span 5;span 4;");
        due("end(7)", z.end(7), 7);
        due("feed", z.feed(0x776f726b, 0x65727320, 0x333b2020, 0x20202020, 0x20202020), 27);
        due("text", z.text(0, NONE), 0);
        due("SPAN", z.store(0, 0), 5);
        due("WORKERS", z.store(0, 1), 3);
    }

    private static EpochEngine blanks(int length) {
        EpochEngine x = new EpochEngine();
        Teller.put(x, " ".repeat(length));
        return x;
    }

    private static void texts() {
        under("promise 4: -2: no such sort");
        sweep("text(?, NONE)", EpochEngine::new, (x, n) -> n >= 0 && n < 4 ? 0 : x.text(n, NONE), n -> n >= 0 && n < 4 ? 0 : NO_SUCH);
        sweep("text(?, 0)", BoundariesTest::two, (x, n) -> x.text(n, 0), n -> n >= 0 && n < 4 ? 0 : NO_SUCH);
        under("promise 4: -2: there is none such");
        for (int sort = 0; sort < 4; sort++) {
            int of = sort;
            sweep("text(" + sort + ", ?) without any", EpochEngine::new, (x, n) -> n == NONE ? 0 : x.text(of, n), n -> n == NONE ? 0 : NO_SUCH);
            sweep("text(" + sort + ", ?) with one", BoundariesTest::one, (x, n) -> n == NONE ? 0 : x.text(of, n), n -> n == NONE || n == 0 ? 0 : NO_SUCH);
            sweep("text(" + sort + ", ?) with two", BoundariesTest::two, (x, n) -> n == NONE ? 0 : x.text(of, n), at(NO_SUCH, NONE, 0, 0, 0, 1, 1));
        }
        under("promise 4: a further one (at NONE): its number; -2: there are as many as may be");
        for (int sort = 0; sort < 4; sort++) {
            EpochEngine x = new EpochEngine();
            int[] want = {0, 1, NO_SUCH, NO_SUCH};
            for (int i = 0; i < want.length; i++) {
                due("text(" + sort + ", NONE)", x.text(sort, NONE), want[i]);
                due("count(" + sort + ")", x.count(sort), Math.min(i + 1, 2));
            }
        }
    }

    private static void textsInPlaces() {
        under("promise 4: in the place of one: its number, nothing of the old one stays, the other one does");
        EpochEngine x = two();
        due("text", Teller.tell(x, 0, 0, "key 9 9;"), 0);
        due("SPAN", x.store(0, 0), 2);
        due("WORKERS", x.store(0, 1), 2);
        due("KEYS", x.store(0, 2), 1 << 9);
        due("text", Teller.tell(x, 1, 0, "task;cut 9;"), 0);
        due("TASKS", x.task(0, NONE, 0), 1);
        due("STEPS", x.task(0, 0, 0), 1);
        due("text", Teller.tell(x, 2, 0, "crash;"), 0);
        due("DEEDS", x.deed(0, NONE, 0), 1);
        due("text", Teller.tell(x, 3, 0, "lacks 3;"), 0);
        due("FACTS", x.fact(0, NONE, 0), 1);
        for (int sort = 0; sort < 4; sort++) {
            due("count(" + sort + ")", x.count(sort), 2);
        }
        due("KEYS of the other", x.store(1, 2), 0);
        due("TASKS of the other", x.task(1, NONE, 0), 0);
        due("text", Teller.tell(x, 0, 1, "span 1;"), 1);
        due("SPAN of 0", x.store(0, 0), 2);
        due("SPAN of 1", x.store(1, 0), 1);
    }

    private static void textsRefused() {
        under("promise 4: NONE: a FAULT; the tape is empty then, what was told stays, nothing more is told");
        String[] faulty = {"span 1;span 0;", "task;task;cut 10;", "crash;step 4;", "has 1 1;lacks 10;"};
        String before = told(two());
        for (int sort = 0; sort < 4; sort++) {
            EpochEngine x = two();
            for (int at = 0; at < 2; at++) {
                due("text(" + sort + ", " + at + ")", Teller.tell(x, sort, at, faulty[sort]), NONE);
                due("FAULT", x.fault(0), 2);
                due("the tape", x.end(1), NONE);
            }
            due("all is as it was", told(x).equals(before), true);
            EpochEngine y = new EpochEngine();
            due("text(" + sort + ", NONE)", Teller.tell(y, sort, NONE, faulty[sort]), NONE);
            due("count", y.count(sort), 0);
            due("text(" + sort + ", 0)", y.text(sort, 0), NO_SUCH);
        }
        under("promise 4: -2: no text is read then, FAULT 0; the tape is taken (and is empty then)");
        int[][] refused = {{0, NONE}, {1, NONE}, {2, NONE}, {3, NONE}, {0, 2}, {1, -2}, {2, 3}, {3, Integer.MAX_VALUE}, {4, NONE}, {-1, 0}, {4, 0}};
        for (int[] call : refused) {
            EpochEngine x = two();
            Teller.tell(x, 0, 0, "#");
            due("a FAULT ahead", x.fault(0), 1);
            Teller.put(x, "span 0;#");
            due("text(" + call[0] + ", " + call[1] + ")", x.text(call[0], call[1]), NO_SUCH);
            due("FAULT", x.fault(0), 0);
            due("its place", x.fault(1), NONE);
            due("the tape", x.end(1), NONE);
            due("all is as it was", told(x).equals(before), true);
        }
        under("promise 4: a FAULT of the text before is nothing to the next one, be it empty");
        String[] before4 = {"#", "span", "span 0;", "span 5", "span 555;"};
        String[] next = {"", " ", "span 5;"};
        for (String first : before4) {
            for (String second : next) {
                EpochEngine x = new EpochEngine();
                due("text of " + first, Teller.tell(x, 0, NONE, first), NONE);
                due("text of " + second, Teller.tell(x, 0, NONE, second), 0);
                due("FAULT", x.fault(0), 0);
                due("its place", x.fault(1), NONE);
            }
        }
        under("promise 4: an empty tape is a text");
        EpochEngine z = two();
        due("text", z.text(0, 0), 0);
        due("KEYS", z.store(0, 2), 0);
    }

    /** All that can be asked of what was told, in one row (beyond 512 calls, so of an object that is not asked any more). */
    private static String told(EpochEngine x) {
        StringBuilder b = new StringBuilder();
        for (int i = 0; i < 2; i++) {
            b.append(x.count(i)).append(' ').append(x.count(i + 2)).append(' ');
            for (int what = 0; what < 20; what++) {
                b.append(x.store(i, what)).append(' ');
            }
            for (int k = NONE; k < 27; k++) {
                for (int what = 0; what < 3; what++) {
                    b.append(x.deed(i, k, what)).append(' ').append(x.fact(i, k, what)).append(' ');
                    b.append(x.task(i, k, what)).append(' ').append(x.task(i, k, 10 + what)).append(' ').append(x.task(i, k, 20 + what)).append(' ');
                }
            }
        }
        return b.toString();
    }

    private static void faults() {
        under("promise 5: the FAULT, 0 without; its place, NONE without; NONE for another what");
        sweep("fault(?)", EpochEngine::new, EpochEngine::fault, at(NONE, 0, 0));
        sweep("fault(?)", () -> faulty("span 5;workers 9;"), EpochEngine::fault, at(NONE, 0, 2, 1, 15));
        sweep("fault(?)", () -> faulty("#"), EpochEngine::fault, at(NONE, 0, 1, 1, 0));
        under("promise 5: of the latest text(), whatever was asked since");
        EpochEngine x = two();
        Teller.tell(x, 2, 0, "step 9;");
        Teller.put(x, "crash;");
        due("count", x.count(2), 2);
        due("stop", x.stop(0, 0, 0), 24);
        due("drawn", x.drawn(0, 0, 1, 0, 0), 1);
        due("image", x.image(0), true);
        due("the FAULT", x.fault(0), 2);
        due("its place", x.fault(1), 5);
        due("text", x.text(2, 0), 0);
        due("the FAULT", x.fault(0), 0);
        due("its place", x.fault(1), NONE);
    }

    private static EpochEngine faulty(String text) {
        EpochEngine x = new EpochEngine();
        due("text of " + text, Teller.tell(x, 0, NONE, text), NONE);
        return x;
    }

    private static void stores() {
        under("promise 6: store, -2 for another what");
        sweep("store(0, ?)", BoundariesTest::one, (x, n) -> x.store(0, n),
                at(NO_SUCH, 0, 3, 1, 3, 2, 67, 10, 10, 11, 20, 12, NONE, 13, NONE, 14, NONE, 15, NONE, 16, 5, 17, NONE, 18, NONE, 19, NONE));
        under("promise 6: store, -2: there is none such");
        sweep("store(?, 0) of none", EpochEngine::new, (x, n) -> x.store(n, 0), row(NO_SUCH));
        sweep("store(?, 0) of one", BoundariesTest::one, (x, n) -> x.store(n, 0), row(NO_SUCH, 3));
        sweep("store(?, 2) of two", BoundariesTest::two, (x, n) -> x.store(n, 2), row(NO_SUCH, 67, 0));
        under("promise 6: a VALUE 0 is there, NONE: it is not");
        EpochEngine x = told("key 0 0;key 9 99;", "");
        due("store(0, 10)", x.store(0, 10), 0);
        due("store(0, 11)", x.store(0, 11), NONE);
        due("store(0, 19)", x.store(0, 19), 99);
        due("store(0, 2)", x.store(0, 2), 1 | 1 << 9);
    }

    private static void tasks() {
        under("promise 7: task, how many (t NONE, what 0); -2 for another what");
        sweep("task(0, NONE, ?)", BoundariesTest::one, (x, n) -> x.task(0, NONE, n), row(NO_SUCH, 4));
        sweep("task(1, NONE, ?)", BoundariesTest::two, (x, n) -> x.task(1, NONE, n), row(NO_SUCH, 0));
        under("promise 7: task, -2 for another what, or a STEP that there is not");
        sweep("task(0, 0, ?)", BoundariesTest::one, (x, n) -> x.task(0, 0, n), at(NO_SUCH, 0, 2, 10, 4, 11, 0, 12, 5, 20, 2, 21, 2, 22, NONE));
        sweep("task(0, 1, ?)", BoundariesTest::one, (x, n) -> x.task(0, 1, n), at(NO_SUCH, 0, 2, 10, 5, 11, 0, 12, 4, 20, 3, 21, 7, 22, 1));
        sweep("task(0, 3, ?)", BoundariesTest::one, (x, n) -> x.task(0, 3, n), row(NO_SUCH, 0));
        under("promise 7: task, -2: there is none such (of any)");
        sweep("task(0, ?, 0)", BoundariesTest::one, (x, n) -> x.task(0, n, 0), at(NO_SUCH, NONE, 4, 0, 2, 1, 2, 2, 1, 3, 0));
        sweep("task(0, ?, 10)", BoundariesTest::one, (x, n) -> x.task(0, n, 10), row(NO_SUCH, 4, 5, 3));
        sweep("task(1, ?, 0) of none", BoundariesTest::two, (x, n) -> x.task(1, n, 0), at(NO_SUCH, NONE, 0));
        sweep("task(?, NONE, 0)", BoundariesTest::one, (x, n) -> x.task(n, NONE, 0), row(NO_SUCH, 4));
        sweep("task(?, 0, 0)", BoundariesTest::two, (x, n) -> x.task(n, 0, 0), row(NO_SUCH, 2));
        under("promise 7: task, 7 TASKS of 6 STEPS");
        Supplier<EpochEngine> full = () -> told("", ("task;" + "put 9 99;".repeat(5) + "read 8;").repeat(7));
        sweep("task(0, ?, 0)", full, (x, n) -> x.task(0, n, 0), at(NO_SUCH, NONE, 7, 0, 6, 1, 6, 2, 6, 3, 6, 4, 6, 5, 6, 6, 6));
        sweep("task(0, 6, ?)", full, (x, n) -> x.task(0, 6, n), n -> ofFullTask(n));
    }

    private static int ofFullTask(int what) {
        if (what == 0) {
            return 6;
        }
        if (what < 10 || what > 69 || what % 10 > 2) {
            return NO_SUCH;
        }
        int[] put = {3, 9, 99};
        int[] read = {0, 8, NONE};
        return what < 60 ? put[what % 10] : read[what % 10];
    }

    private static void deeds() {
        under("promise 8: deed, how many (k NONE, what 0); -2 for another what");
        sweep("deed(0, NONE, ?)", BoundariesTest::one, (x, n) -> x.deed(0, NONE, n), row(NO_SUCH, 26));
        under("promise 8: deed, -2 for another what; NONE without a WORKER, a TASK");
        sweep("deed(0, 0, ?)", BoundariesTest::one, (x, n) -> x.deed(0, 0, n), row(NO_SUCH, 6, 0, 0));
        sweep("deed(0, 2, ?)", BoundariesTest::one, (x, n) -> x.deed(0, 2, n), row(NO_SUCH, 6, 1, 1));
        sweep("deed(0, 1, ?)", BoundariesTest::one, (x, n) -> x.deed(0, 1, n), row(NO_SUCH, 2, 0, NONE));
        sweep("deed(0, 7, ?)", BoundariesTest::one, (x, n) -> x.deed(0, 7, n), row(NO_SUCH, 3, 1, NONE));
        sweep("deed(0, 15, ?)", BoundariesTest::one, (x, n) -> x.deed(0, 15, n), row(NO_SUCH, 0, NONE, NONE));
        sweep("deed(0, 20, ?)", BoundariesTest::one, (x, n) -> x.deed(0, 20, n), row(NO_SUCH, 5, 2, NONE));
        sweep("deed(0, 21, ?)", BoundariesTest::one, (x, n) -> x.deed(0, 21, n), row(NO_SUCH, 1, NONE, NONE));
        under("promise 8: deed, -2: there is none such (of either)");
        int[] kinds = {6, 2, 6, 2, 2, 2, 3, 3, 6, 2, 2, 6, 2, 3, 3, 0, 6, 3, 5, 5, 5, 1, 6, 2, 2, 0};
        sweep("deed(0, ?, 0)", BoundariesTest::one, (x, n) -> x.deed(0, n, 0), n -> n == NONE ? 26 : row(NO_SUCH, kinds).applyAsInt(n));
        sweep("deed(1, ?, 0) of none", BoundariesTest::two, (x, n) -> x.deed(1, n, 0), at(NO_SUCH, NONE, 0));
        sweep("deed(?, NONE, 0)", BoundariesTest::two, (x, n) -> x.deed(n, NONE, 0), row(NO_SUCH, 26, 0));
        sweep("deed(?, 0, 0)", BoundariesTest::one, (x, n) -> x.deed(n, 0, 0), row(NO_SUCH, 6));
        under("promise 8: deed, 40 DEEDS");
        sweep("deed(0, ?, 1)", () -> told("", "", "quit 3;".repeat(40)), (x, n) -> x.deed(0, n, 1), n -> n >= 0 && n < 40 ? 3 : NO_SUCH);
    }

    private static void stops() {
        under("promise 9: stop, NONE: there is none such (of any)");
        sweep("stop(?, 0, 0)", BoundariesTest::one, (x, n) -> x.stop(n, 0, 0), row(NONE, 24));
        sweep("stop(0, ?, 0)", BoundariesTest::one, (x, n) -> x.stop(0, n, 0), row(NONE, 24));
        sweep("stop(0, 0, ?)", BoundariesTest::one, (x, n) -> x.stop(0, 0, n), row(NONE, 24));
        sweep("stop(?, 0, 0)", BoundariesTest::two, (x, n) -> x.stop(n, 0, 0), row(NONE, 24, 11));
        sweep("stop(0, ?, 0)", BoundariesTest::two, (x, n) -> x.stop(0, n, 0), row(NONE, 24, 0));
        sweep("stop(0, 0, ?)", BoundariesTest::two, (x, n) -> x.stop(0, 0, n), row(NONE, 24, 0));
        under("promise 9: stop, one of them being none");
        String[] texts = {STORE, TASKS, SCHEDULE};
        for (int without = 0; without < 3; without++) {
            EpochEngine x = new EpochEngine();
            for (int sort = 0; sort < 3; sort++) {
                if (sort != without) {
                    due("text", Teller.tell(x, sort, NONE, texts[sort]), 0);
                }
            }
            due("stop without sort " + without, x.stop(0, 0, 0), NONE);
        }
    }

    private static int stateAtStop(int what) {
        int[][] tens = {{2, 1, 3, 2, 87, 0}, {15, 20, 10, NONE, 7, NONE, 5, NONE, NONE, NONE}, {101, 0, 101, 0, 101, 0, 0, 0, 0, 0},
            {15, 20, 10, NONE, 7, NONE, 5, NONE, NONE, NONE}, {0, 0, 0, 0}, {NONE, 0, NONE}, {0, 1, 0}, {0, 15, 0}, {0, 0, 0}, {1, 0, 1}, {1, 0, 1}};
        return inTens(tens, what);
    }

    private static int inTens(int[][] tens, int what) {
        if (what < 0 || what / 10 >= tens.length || what % 10 >= tens[what / 10].length) {
            return NO_SUCH;
        }
        return tens[what / 10][what % 10];
    }

    private static void states() {
        under("promise 10: state, -2: no such NODE, WORKER, or for another what");
        sweep("state(0, 0, 0, 24, ?)", BoundariesTest::one, (x, n) -> x.state(0, 0, 0, 24, n), BoundariesTest::stateAtStop);
        int[][] at18 = {{2, 0, 3, 2, 87, 3}, {15, 20, 10, NONE, 7, NONE, 5, NONE, NONE, NONE}, {101, 0, 101, 0, 101, 0, 0, 0, 0, 0},
            {10, 20, NONE, NONE, NONE, NONE, 5, NONE, NONE, NONE}, {1, 1, 0, 0}, {NONE, NONE, NONE}, {0, 0, 0}, {0, 0, 0}, {101, 201, 101}, {1, 1, 1},
            {0, 0, 0}};
        sweep("state(0, 0, 0, 18, ?)", BoundariesTest::one, (x, n) -> x.state(0, 0, 0, 18, n), n -> inTens(at18, n));
        int[][] at5 = {{1, 0, 0, 0, 67, 0}, {10, 20, NONE, NONE, NONE, NONE, 5, NONE, NONE, NONE}, {0, 0, 0, 0, 0, 0, 0, 0, 0, 0},
            {10, 20, NONE, NONE, NONE, NONE, 5, NONE, NONE, NONE}, {0, 0, 0, 0}, {0, 1, NONE}, {1, 2, 0}, {10, 30, 0}, {0, 0, 0}, {0, 0, 0}, {0, 0, 0}};
        sweep("state(0, 0, 0, 5, ?)", BoundariesTest::one, (x, n) -> x.state(0, 0, 0, 5, n), n -> inTens(at5, n));
        under("promise 10: state, NODES by SPAN, WORKERS as told");
        int[] nodes = {10, 5, 4, 3, 2};
        for (int span = 1; span <= 5; span++) {
            for (int workers = 1; workers <= 4; workers++) {
                EpochEngine x = told("span " + span + ";workers " + workers + ";", "", "");
                for (int k = 0; k < 10; k++) {
                    due("NODE " + k + " by SPAN " + span, x.state(0, 0, 0, 0, 40 + k), k < nodes[span - 1] ? 0 : NO_SUCH);
                    for (int tens = 50; tens <= 100; tens += 10) {
                        due("WORKER " + k + " of " + workers, x.state(0, 0, 0, 0, tens + k), k >= workers ? NO_SUCH : tens == 50 ? NONE : 0);
                    }
                }
            }
        }
        under("promise 10: state, -2: there is no such STATE");
        int[] epochs = {1, 1, 1, 1, 1, 1, 1, 1, 1, 1, 1, 1, 1, 1, 1, 1, 2, 2, 2, 2, 2, 2, 2, 2, 2};
        sweep("state(0, 0, 0, ?, 0)", BoundariesTest::one, (x, n) -> x.state(0, 0, 0, n, 0), row(NO_SUCH, epochs));
        sweep("state(0, 0, 1, ?, 0) of no DEEDS", BoundariesTest::two, (x, n) -> x.state(0, 0, 1, n, 0), row(NO_SUCH, 1));
        sweep("state(?, 0, 0, 0, 0)", BoundariesTest::two, (x, n) -> x.state(n, 0, 0, 0, 4), row(NO_SUCH, 67, 0));
        sweep("state(0, ?, 0, 0, 0)", BoundariesTest::two, (x, n) -> x.state(0, n, 0, 0, 4), row(NO_SUCH, 67, 67));
        sweep("state(0, 0, ?, 0, 0)", BoundariesTest::two, (x, n) -> x.state(0, 0, n, 0, 4), row(NO_SUCH, 67, 67));
        sweep("state(0, 0, ?, 1, 0)", BoundariesTest::two, (x, n) -> x.state(0, 0, n, 1, 4), row(NO_SUCH, 67));
        sweep("state(?, 0, 0, 0, 0)", BoundariesTest::one, (x, n) -> x.state(n, 0, 0, 0, 4), row(NO_SUCH, 67));
        sweep("state(0, 0, 0, 40, 0)", () -> told("", "", "crash;".repeat(40)), (x, n) -> x.state(0, 0, 0, n, 0), n -> n >= 0 && n <= 40 ? 1 : NO_SUCH);
    }

    private static void whys() {
        under("promise 11: why, -2: k at STOP or behind it, or below 0");
        int[] verdicts = new int[24];
        verdicts[6] = 1;
        verdicts[7] = 2;
        verdicts[13] = 1;
        verdicts[14] = 3;
        verdicts[17] = 1;
        sweep("why(0, 0, 0, ?, 0)", BoundariesTest::one, (x, n) -> x.why(0, 0, 0, n, 0), row(NO_SUCH, verdicts));
        sweep("why(0, 0, 1, ?, 0) of no DEEDS", BoundariesTest::two, (x, n) -> x.why(0, 0, 1, n, 0), row(NO_SUCH));
        under("promise 11: why, -2 for another what; NONE of others");
        int[][] rows = {{0, 0, NONE, NONE, NONE}, {1, 0, NONE, NONE, NONE}, {6, 1, NONE, NONE, 101}, {7, 2, 0, 6, NONE}, {13, 1, NONE, NONE, 101},
            {14, 3, 1, 13, NONE}, {15, 0, NONE, NONE, NONE}, {17, 1, NONE, NONE, 201}, {18, 0, NONE, NONE, NONE}, {21, 0, NONE, NONE, NONE}};
        for (int[] of : rows) {
            sweep("why(0, 0, 0, " + of[0] + ", ?)", BoundariesTest::one, (x, n) -> x.why(0, 0, 0, of[0], n), row(NO_SUCH, of[1], of[2], of[3], of[4]));
        }
        under("promise 11: why, -2: there is none such (of any)");
        sweep("why(?, 0, 0, 6, 0)", BoundariesTest::one, (x, n) -> x.why(n, 0, 0, 6, 0), row(NO_SUCH, 1));
        sweep("why(0, ?, 0, 6, 0)", BoundariesTest::one, (x, n) -> x.why(0, n, 0, 6, 0), row(NO_SUCH, 1));
        sweep("why(0, 0, ?, 6, 0)", BoundariesTest::one, (x, n) -> x.why(0, 0, n, 6, 0), row(NO_SUCH, 1));
        sweep("why(0, ?, 0, 0, 0)", BoundariesTest::two, (x, n) -> x.why(0, n, 0, 0, 0), row(NO_SUCH, 0));
    }

    /** Two of each sort in turns: a question is of those that it names, whatever was asked before. */
    private static void inTurns() {
        under("promises 10, 11: of the STORE, the TASKS, the SCHEDULE that are named, whatever was asked before");
        EpochEngine x = told("span 1;key 0 1;", "task;put 0 7;", "begin 0 0;step 0;commit 0;", "crash;begin 0 0;step 0;commit 0;crash;");
        due("another STORE", Teller.tell(x, 0, NONE, "span 5;key 1 2;"), 1);
        due("other TASKS", Teller.tell(x, 1, NONE, "task;put 4 8;"), 1);
        for (int again = 0; again < 2; again++) {
            due("why(0, 0, 0, 2, 0)", x.why(0, 0, 0, 2, 0), 1);
            due("why(0, 0, 1, 2, 0)", x.why(0, 0, 1, 2, 0), 0);
            due("why(0, 0, 1, 3, 0)", x.why(0, 0, 1, 3, 0), 1);
            due("KEYS of STORE 1 behind a crash", x.state(1, 0, 1, 5, 4), 2);
            due("KEYS of STORE 0 behind a crash", x.state(0, 0, 1, 5, 4), 1);
            due("LEFT of STORE 1", x.state(1, 1, 0, 3, 31), 2);
            due("LEFT of STORE 0", x.state(0, 1, 0, 3, 31), NONE);
            due("NODE 0 of SPAN 5", x.state(1, 1, 0, 3, 40), 1);
            due("NODE 0 of SPAN 1", x.state(0, 1, 0, 3, 40), 0);
            due("NODE 4 of SPAN 1", x.state(0, 1, 0, 3, 44), 1);
            due("NODE 4 of SPAN 5", x.state(1, 1, 0, 3, 44), NO_SUCH);
            due("NODE 4 of SPAN 5, no DEED", x.state(1, 1, 0, 0, 44), NO_SUCH);
            due("KEY 4 of TASKS 1", x.state(1, 1, 0, 3, 14), 8);
            due("KEY 4 of TASKS 0", x.state(1, 0, 0, 3, 14), NONE);
            due("SERIAL", x.serial(1, 1, 0, 1), 1);
            due("COMMITS", x.serial(0, 0, 1, 0), 0);
            due("OFTEN", x.after(0, 0, 0, 0), 0);
            due("TOP behind a crash", x.after(1, 1, 1, 5), 0);
        }
    }

    /** A long run, then a shorter one that ends where the long one had something to tell. */
    private static void shorterRuns() {
        under("promises 10, 22: nothing of a longer run that was asked for before");
        String stale = "begin 0 0;step 0;begin 1 1;step 1;commit 1;commit 0;";
        EpochEngine x = told("key 0 1;", "task;read 0;task;put 0 2;task;put 1 3;", stale + "epoch;", stale.replace("commit 0;", ""));
        for (int again = 0; again < 2; again++) {
            due("HOT of the longer", x.after(0, 0, 0, 1), 0);
            due("HOT of the shorter", x.after(0, 0, 1, 1), NONE);
            due("REFUSED of the longer", x.state(0, 0, 0, 7, 3), 1);
            due("REFUSED of the shorter", x.state(0, 0, 1, 5, 3), 0);
            due("WASTED of the shorter", x.after(0, 0, 1, 2), 0);
        }
        String one = "begin 0 1;step 0;commit 0;";
        String flushed = "epoch;flush 0;flush 1;crash;";
        EpochEngine y = told("key 0 1;", "task;read 0;task;put 0 2;task;put 1 3;", one + one.replace("begin 0 1", "begin 0 2") + flushed, one + flushed);
        for (int again = 0; again < 2; again++) {
            due("KEYS of the longer", y.state(0, 0, 0, 10, 4), 3);
            due("KEYS of the shorter", y.state(0, 0, 1, 7, 4), 1);
            due("STAMP of KEY 1 of the shorter", y.state(0, 0, 1, 7, 21), 0);
            due("lines of the shorter", y.state(0, 0, 1, 7, 90), 1);
            due("LEFT of the shorter", y.state(0, 0, 1, 6, 31), NONE);
            due("COMMITS of the longer", y.serial(0, 0, 0, 0), 2);
            due("COMMITS of the shorter", y.serial(0, 0, 1, 0), 1);
            due("OFTEN of the shorter", y.after(0, 0, 1, 0), 1);
        }
    }

    private static void serials() {
        under("promise 12: serial, NONE: not so many, or for another what");
        sweep("serial(0, 0, 0, ?)", BoundariesTest::one, (x, n) -> x.serial(0, 0, 0, n),
                at(NONE, 0, 2, 1, 2, 10, 0, 11, 2, 20, 101, 21, 101, 30, 0, 31, 0, 50, 0, 51, 1));
        sweep("serial(0, 0, 1, ?) of no COMMITS", BoundariesTest::two, (x, n) -> x.serial(0, 0, 1, n), row(NONE, 0, 1));
        under("promise 12: serial, 6 and 7 COMMITS, k 0 .. 9 of 12");
        Supplier<EpochEngine> six = () -> told("", "task;", "begin 0 0;commit 0;".repeat(6));
        sweep("serial(0, 0, 0, ?) of 6", six, (x, n) -> x.serial(0, 0, 0, n), n -> ofCommits(6, n));
        Supplier<EpochEngine> seven = () -> told("", "task;", "begin 0 0;commit 0;".repeat(7));
        sweep("serial(0, 0, 0, ?) of 7", seven, (x, n) -> x.serial(0, 0, 0, n), n -> ofCommits(7, n));
        Supplier<EpochEngine> twelve = () -> told("", "task;", "begin 0 0;commit 0;".repeat(12));
        sweep("serial(0, 0, 0, ?) of 12", twelve, (x, n) -> x.serial(0, 0, 0, n), n -> ofCommits(12, n));
        under("promise 12: serial, NONE: there is none such (of any)");
        sweep("serial(?, 0, 0, 0)", BoundariesTest::one, (x, n) -> x.serial(n, 0, 0, 0), row(NONE, 2));
        sweep("serial(0, ?, 0, 0)", BoundariesTest::one, (x, n) -> x.serial(0, n, 0, 0), row(NONE, 2));
        sweep("serial(0, 0, ?, 0)", BoundariesTest::one, (x, n) -> x.serial(0, 0, n, 0), row(NONE, 2));
        sweep("serial(0, ?, 0, 0)", BoundariesTest::two, (x, n) -> x.serial(0, n, 0, 0), row(NONE, 2, 0));
    }

    /** As many COMMITS of a TASK without STEPS by one WORKER: 720 rows of six. */
    private static int ofCommits(int many, int what) {
        if (what == 0) {
            return many;
        }
        if (what == 1) {
            return many <= 6 ? 720 : NONE;
        }
        int k = Math.floorMod(what, 10);
        if (what < 10 || what >= 60 || k >= many) {
            return NONE;
        }
        int[] tens = {0, 101 + k, 0, NONE, many <= 6 ? k : NONE};
        return tens[what / 10 - 1];
    }

    private static void facts() {
        under("promise 13: fact, how many (k NONE, what 0); -2 for another what");
        sweep("fact(0, NONE, ?)", BoundariesTest::one, (x, n) -> x.fact(0, NONE, n), row(NO_SUCH, 3));
        sweep("fact(0, 0, ?)", BoundariesTest::one, (x, n) -> x.fact(0, 0, n), row(NO_SUCH, 0, 15));
        under("promise 13: fact, NONE: it lacks");
        sweep("fact(0, 1, ?)", BoundariesTest::one, (x, n) -> x.fact(0, 1, n), row(NO_SUCH, 9, NONE));
        under("promise 13: fact, -2: there is none such (of either)");
        sweep("fact(0, ?, 0)", BoundariesTest::one, (x, n) -> x.fact(0, n, 0), at(NO_SUCH, NONE, 3, 0, 0, 1, 9, 2, 4));
        sweep("fact(0, ?, 1)", BoundariesTest::one, (x, n) -> x.fact(0, n, 1), row(NO_SUCH, 15, NONE, 7));
        sweep("fact(1, ?, 0) of none", BoundariesTest::two, (x, n) -> x.fact(1, n, 0), at(NO_SUCH, NONE, 0));
        sweep("fact(?, NONE, 0)", BoundariesTest::two, (x, n) -> x.fact(n, NONE, 0), row(NO_SUCH, 3, 0));
        sweep("fact(?, 0, 0)", BoundariesTest::one, (x, n) -> x.fact(n, 0, 0), row(NO_SUCH, 0));
    }

    private static void fits() {
        under("promise 14: fits, -2 for another what, or a set that there is not");
        IntUnaryOperator eight = at(NO_SUCH, 0, 8, 1, 0, 2, 0, 3, NONE, 4, NONE, 5, NONE, 6, NONE, 10, 0, 11, 1, 12, 2, 13, 3, 14, 4, 15, 5, 16, 6, 17, 7);
        sweep("fits(0, 0, 0, 0, ?)", BoundariesTest::one, (x, n) -> x.fits(0, 0, 0, 0, n), eight);
        sweep("fits(0, 0, 0, 1, ?)", BoundariesTest::two, (x, n) -> x.fits(0, 0, 0, 1, n), eight);
        under("promise 14: fits, nothing FITS: ASK, FEWEST, SURE NONE");
        sweep("fits(0, 0, 1, 0, ?)", BoundariesTest::two, (x, n) -> x.fits(0, 0, 1, 0, n), row(NO_SUCH, 0, NONE, NONE, NONE, NONE, NONE, NONE));
        under("promise 14: fits, SURE of a WORKER that is none: NONE, of one that is in none: 0, in all: 1");
        Supplier<EpochEngine> sure = () -> {
            EpochEngine x = told("", "task;put 0 1;", "begin 0 0;step 0;commit 0;epoch;");
            Teller.tell(x, 3, NONE, "has 0 1;");
            return x;
        };
        sweep("fits(0, 0, 0, 0, ?)", sure, (x, n) -> x.fits(0, 0, 0, 0, n), at(NO_SUCH, 0, 1, 1, 0, 2, 2, 3, 1, 4, 1, 5, NONE, 6, NONE, 10, 3));
        under("promise 14: fits, -2: there is none such (of any)");
        sweep("fits(?, 0, 0, 0, 0)", BoundariesTest::one, (x, n) -> x.fits(n, 0, 0, 0, 0), row(NO_SUCH, 8));
        sweep("fits(0, ?, 0, 0, 0)", BoundariesTest::one, (x, n) -> x.fits(0, n, 0, 0, 0), row(NO_SUCH, 8));
        sweep("fits(0, 0, ?, 0, 0)", BoundariesTest::one, (x, n) -> x.fits(0, 0, n, 0, 0), row(NO_SUCH, 8));
        sweep("fits(0, 0, 0, ?, 0)", BoundariesTest::one, (x, n) -> x.fits(0, 0, 0, n, 0), row(NO_SUCH, 8));
        sweep("fits(0, 0, 0, ?, 3) of none", () -> told(STORE, TASKS, SCHEDULE), (x, n) -> x.fits(0, 0, 0, n, 3), row(NO_SUCH));
    }

    private static void draws() {
        under("promise 15: drawn, what as state() (but 5, 30 + k); -2 for another what");
        int[][] first = {{1, 0, 0, 0, 67}, {10, 20, NONE, NONE, NONE, NONE, 5, NONE, NONE, NONE}, {0, 0, 0, 0, 0, 0, 0, 0, 0, 0}, {}, {0, 0, 0, 0},
            {NONE, NONE, NONE}, {0, 0, 0}, {0, 0, 0}, {0, 0, 0}, {0, 0, 0}, {0, 0, 0}};
        sweep("drawn(0, 0, 7, 0, ?)", BoundariesTest::one, (x, n) -> x.drawn(0, 0, 7, 0, n), n -> inTens(first, n));
        sweep("drawn(0, 0, 7, 60, ?), -2 or not", BoundariesTest::one, (x, n) -> x.drawn(0, 0, 7, 60, n) == NO_SUCH ? 0 : 1,
                n -> inTens(first, n) == NO_SUCH ? 0 : 1);
        under("promise 15: drawn, -2 for another n (0 to 60)");
        sweep("drawn(0, 0, 0, ?, 0), -2 or not", BoundariesTest::one, (x, n) -> x.drawn(0, 0, 0, n, 0) == NO_SUCH ? 0 : 1, n -> n >= 0 && n <= 60 ? 1 : 0);
        under("promise 15: drawn, any SEED, no draw");
        sweep("drawn(0, 0, ?, 0, 0)", BoundariesTest::one, (x, n) -> x.drawn(0, 0, n, 0, 0), n -> 1);
        under("promise 15: drawn, -2: there is none such (of either)");
        sweep("drawn(?, 0, 7, 0, 0)", BoundariesTest::one, (x, n) -> x.drawn(n, 0, 7, 0, 4), row(NO_SUCH, 67));
        sweep("drawn(0, ?, 7, 0, 0)", BoundariesTest::one, (x, n) -> x.drawn(0, n, 7, 0, 4), row(NO_SUCH, 67));
        sweep("drawn(?, 0, 7, 0, 0)", BoundariesTest::two, (x, n) -> x.drawn(n, 0, 7, 0, 4), row(NO_SUCH, 67, 0));
        sweep("drawn(0, ?, 7, 60, 0)", BoundariesTest::two, (x, n) -> x.drawn(0, n, 7, 60, 2) == NO_SUCH ? 0 : 1, row(0, 1, 1));
    }

    private static void keys() {
        under("promise 16: keys, NONE for another what");
        sweep("keys(0, 0, ?)", BoundariesTest::one, (x, n) -> x.keys(0, 0, n), row(NONE, 1, 5));
        sweep("keys(0, 1, ?)", BoundariesTest::one, (x, n) -> x.keys(0, 1, n), row(NONE, 31, 128));
        sweep("keys(0, 3, ?)", BoundariesTest::one, (x, n) -> x.keys(0, 3, n), row(NONE, 0, 0));
        under("promise 16: keys, NONE: there is none such (of either)");
        sweep("keys(0, ?, 1)", BoundariesTest::one, (x, n) -> x.keys(0, n, 1), row(NONE, 5, 128, 16, 0));
        sweep("keys(?, 0, 1)", BoundariesTest::two, (x, n) -> x.keys(n, 0, 1), row(NONE, 5));
        sweep("keys(1, ?, 1) of none", BoundariesTest::two, (x, n) -> x.keys(1, n, 1), row(NONE));
    }

    private static void frees() {
        under("promise 17: free, NONE for another what");
        sweep("free(0, ?)", BoundariesTest::one, (x, n) -> x.free(0, n), row(NONE, 4, 4));
        sweep("free(1, ?) without TASKS", BoundariesTest::two, (x, n) -> x.free(1, n), row(NONE, 0, 0));
        under("promise 17: free, NONE: there is none such");
        sweep("free(?, 0)", BoundariesTest::one, (x, n) -> x.free(n, 0), row(NONE, 4));
        sweep("free(?, 1)", BoundariesTest::two, (x, n) -> x.free(n, 1), row(NONE, 4, 0));
        sweep("free(?, 0) of none", EpochEngine::new, (x, n) -> x.free(n, 0), row(NONE));
    }

    private static void alones() {
        under("promise 18: alone, -2 for another what; NONE: it is not there");
        sweep("alone(0, 0, 0, ?)", BoundariesTest::one, (x, n) -> x.alone(0, 0, 0, n),
                at(NO_SUCH, 0, 10, 10, 15, 11, 20, 12, 10, 13, NONE, 14, NONE, 15, NONE, 16, 5, 17, NONE, 18, NONE, 19, NONE));
        sweep("alone(1, 0, 0, ?)", BoundariesTest::two, (x, n) -> x.alone(1, 0, 0, n),
                at(NO_SUCH, 0, 0, 10, 5, 11, NONE, 12, 0, 13, NONE, 14, NONE, 15, NONE, 16, NONE, 17, NONE, 18, NONE, 19, NONE));
        under("promise 18: alone, -2: there is none such (of any)");
        sweep("alone(0, 0, ?, 0)", BoundariesTest::one, (x, n) -> x.alone(0, 0, n, 0), row(NO_SUCH, 10, 30, 0, 0));
        sweep("alone(?, 0, 0, 0)", BoundariesTest::one, (x, n) -> x.alone(n, 0, 0, 0), row(NO_SUCH, 10));
        sweep("alone(0, ?, 0, 0)", BoundariesTest::two, (x, n) -> x.alone(0, n, 0, 0), row(NO_SUCH, 10));
        sweep("alone(?, 0, 0, 0)", BoundariesTest::two, (x, n) -> x.alone(n, 0, 0, 0), row(NO_SUCH, 10, 0));
    }

    private static void swaps() {
        under("promise 19: swaps, NONE: there is none such (of either)");
        sweep("swaps(?, 0)", BoundariesTest::one, (x, n) -> x.swaps(n, 0), row(NONE, 6));
        sweep("swaps(0, ?)", BoundariesTest::one, (x, n) -> x.swaps(0, n), row(NONE, 6));
        sweep("swaps(?, 0)", BoundariesTest::two, (x, n) -> x.swaps(n, 0), row(NONE, 6, 6));
        sweep("swaps(0, ?)", BoundariesTest::two, (x, n) -> x.swaps(0, n), row(NONE, 6, 0));
    }

    private static void weaves() {
        under("promise 20: weave, NONE for another what");
        sweep("weave(0, 0, 0, 1, ?)", BoundariesTest::one, (x, n) -> x.weave(0, 0, 0, 1, n), row(NONE, 6, 4, 0, 2, 0));
        sweep("weave(0, 0, 1, 2, ?)", BoundariesTest::one, (x, n) -> x.weave(0, 0, 1, 2, n), row(NONE, 3, 2, 1, 0, 1));
        sweep("weave(0, 0, 2, 1, ?)", BoundariesTest::one, (x, n) -> x.weave(0, 0, 2, 1, n), row(NONE, 3, 2, 0, 1, 1));
        sweep("weave(0, 0, 3, 3, ?)", BoundariesTest::one, (x, n) -> x.weave(0, 0, 3, 3, n), row(NONE, 1, 1, 0, 0, 0));
        under("promise 20: weave, NONE: there is none such (of any)");
        sweep("weave(0, 0, ?, 0, 0)", BoundariesTest::one, (x, n) -> x.weave(0, 0, n, 0, 0), row(NONE, 6, 6, 3, 1));
        sweep("weave(0, 0, 0, ?, 0)", BoundariesTest::one, (x, n) -> x.weave(0, 0, 0, n, 0), row(NONE, 6, 6, 3, 1));
        sweep("weave(?, 0, 0, 0, 0)", BoundariesTest::one, (x, n) -> x.weave(n, 0, 0, 0, 0), row(NONE, 6));
        sweep("weave(0, ?, 0, 0, 0)", BoundariesTest::one, (x, n) -> x.weave(0, n, 0, 0, 0), row(NONE, 6));
        sweep("weave(0, ?, 0, 0, 0)", BoundariesTest::two, (x, n) -> x.weave(0, n, 0, 0, 0), row(NONE, 6));
    }

    private static void risks() {
        under("promise 21: risk, NONE: there is none such (of any)");
        sweep("risk(0, 0, ?)", BoundariesTest::one, (x, n) -> x.risk(0, 0, n), row(NONE, 1, 5, 0, 0));
        sweep("risk(?, 0, 1)", BoundariesTest::one, (x, n) -> x.risk(n, 0, 1), row(NONE, 5));
        sweep("risk(0, ?, 1)", BoundariesTest::one, (x, n) -> x.risk(0, n, 1), row(NONE, 5));
        sweep("risk(0, ?, 1)", BoundariesTest::two, (x, n) -> x.risk(0, n, 1), row(NONE, 5));
        sweep("risk(0, 1, ?) of none", BoundariesTest::two, (x, n) -> x.risk(0, 1, n), row(NONE));
    }

    private static void afters() {
        under("promise 22: after, -2 for another what");
        sweep("after(0, 0, 0, ?)", BoundariesTest::one, (x, n) -> x.after(0, 0, 0, n), row(NO_SUCH, 0, 0, 4, 1, 1, 101));
        under("promise 22: after, OFTEN, HOT NONE where there is none");
        sweep("after(0, 0, 1, ?)", BoundariesTest::two, (x, n) -> x.after(0, 0, 1, n), row(NO_SUCH, NONE, NONE, 0, 0, 0, 0));
        under("promise 22: after, -2: there is none such (of any)");
        sweep("after(?, 0, 0, 2)", BoundariesTest::one, (x, n) -> x.after(n, 0, 0, 2), row(NO_SUCH, 4));
        sweep("after(0, ?, 0, 2)", BoundariesTest::one, (x, n) -> x.after(0, n, 0, 2), row(NO_SUCH, 4));
        sweep("after(0, 0, ?, 2)", BoundariesTest::one, (x, n) -> x.after(0, 0, n, 2), row(NO_SUCH, 4));
        sweep("after(0, ?, 0, 2)", BoundariesTest::two, (x, n) -> x.after(0, n, 0, 2), row(NO_SUCH, 4, 0));
    }

    private static void counts() {
        under("promise 23: count, -2 for another sort");
        sweep("count(?) of a new object", EpochEngine::new, EpochEngine::count, row(NO_SUCH, 0, 0, 0, 0));
        sweep("count(?) with one of each", BoundariesTest::one, EpochEngine::count, row(NO_SUCH, 1, 1, 1, 1));
        sweep("count(?) with two of each", BoundariesTest::two, EpochEngine::count, row(NO_SUCH, 2, 2, 2, 2));
        sweep("count(?) with DIARIES alone", () -> faultless(3), EpochEngine::count, row(NO_SUCH, 0, 0, 0, 1));
        sweep("count(?) with SCHEDULES alone", () -> faultless(2), EpochEngine::count, row(NO_SUCH, 0, 0, 1, 0));
    }

    private static EpochEngine faultless(int sort) {
        EpochEngine x = new EpochEngine();
        due("text of sort " + sort, x.text(sort, NONE), 0);
        return x;
    }

    private static void images() {
        under("promise 24: image k (0 .. 2): true; false for another k");
        sweep("image(?)", BoundariesTest::two, (x, n) -> x.image(n) ? 1 : 0, row(0, 1, 1, 1));
        under("promise 24: an image is all as it is now: later texts do not change it, a later image does");
        EpochEngine x = new EpochEngine();
        for (int k = 0; k < 3; k++) {
            due("text", Teller.tell(x, 0, k == 0 ? NONE : 0, "span " + (k + 1) + ";"), 0);
            due("image(" + k + ")", x.image(k), true);
        }
        for (int k = 2; k >= 0; k--) {
            due("again(" + k + ")", x.again(k), true);
            due("SPAN of image " + k, x.store(0, 0), k + 1);
        }
        due("text", Teller.tell(x, 0, 0, "span 5;"), 0);
        due("image(1)", x.image(1), true);
        due("again(0)", x.again(0), true);
        due("SPAN of image 0", x.store(0, 0), 1);
        due("again(1)", x.again(1), true);
        due("SPAN of the later image 1", x.store(0, 0), 5);
        due("again(2)", x.again(2), true);
        due("SPAN of image 2", x.store(0, 0), 3);
        under("promise 24: the tape, the FAULT, too");
        EpochEngine y = two();
        Teller.tell(y, 0, 0, "span 9;");
        Teller.put(y, "span 4;#");
        due("image(0)", y.image(0), true);
        due("end(7)", y.end(7), 7);
        due("text", y.text(0, 0), 0);
        due("FAULT", y.fault(0), 0);
        due("again(0)", y.again(0), true);
        due("FAULT", y.fault(0), 2);
        due("its place", y.fault(1), 5);
        due("SPAN", y.store(0, 0), 3);
        due("the tape has 8", y.end(9), NONE);
        due("the tape has 8", y.end(8), 8);
        due("text", y.text(0, 0), NONE);
        due("FAULT", y.fault(0), 1);
        due("its place", y.fault(1), 7);
        under("promise 24: a refused image changes nothing");
        EpochEngine z = told("span 5;", "");
        due("image(1)", z.image(1), true);
        Teller.tell(z, 0, 0, "span 1;");
        due("image(3)", z.image(3), false);
        due("image(-1)", z.image(-1), false);
        due("again(0)", z.again(0), false);
        due("again(2)", z.again(2), false);
        due("again(1)", z.again(1), true);
        due("SPAN", z.store(0, 0), 5);
    }

    private static void agains() {
        under("promise 25: again, false if there is none such");
        sweep("again(?) without images", BoundariesTest::two, (x, n) -> x.again(n) ? 1 : 0, n -> 0);
        for (int made = 0; made < 3; made++) {
            int k = made;
            Supplier<EpochEngine> with = () -> {
                EpochEngine x = two();
                due("image(" + k + ")", x.image(k), true);
                return x;
            };
            sweep("again(?) with image " + k, with, (x, n) -> x.again(n) ? 1 : 0, n -> n == k ? 1 : 0);
        }
        under("promise 25: false: nothing changes");
        EpochEngine x = two();
        String before = told(two());
        Teller.put(x, "span 5;");
        for (int k : new int[] {-1, 0, 1, 2, 3, Integer.MAX_VALUE, Integer.MIN_VALUE}) {
            due("again(" + k + ")", x.again(k), false);
        }
        due("the tape", x.end(7), 7);
        due("all that is told", told(x).equals(before), true);
        under("promise 25: an image of nothing brings back nothing, images stay");
        EpochEngine y = new EpochEngine();
        due("image(0)", y.image(0), true);
        for (int sort = 0; sort < 4; sort++) {
            due("text", y.text(sort, NONE), 0);
        }
        due("image(1)", y.image(1), true);
        due("again(0)", y.again(0), true);
        for (int sort = 0; sort < 4; sort++) {
            due("count(" + sort + ")", y.count(sort), 0);
        }
        due("again(1)", y.again(1), true);
        due("count(3)", y.count(3), 1);
        due("again(0)", y.again(0), true);
        due("count(3)", y.count(3), 0);
        under("promise 25: all that is as the image has it, longer and shorter texts");
        EpochEngine z = two();
        due("image(0)", z.image(0), true);
        String[][] other = {{"workers 4;key 7 7;", "key 8 8;"}, {"task;task;cut 1;cut 2;cut 3;task;", ("task;" + "cut 1;".repeat(6)).repeat(7)},
            {"crash;", "flush 3;".repeat(40)}, {"", "lacks 1;".repeat(8)}};
        for (int sort = 0; sort < 4; sort++) {
            due("text", Teller.tell(z, sort, 0, other[sort][0]), 0);
            due("text", Teller.tell(z, sort, 1, other[sort][1]), 1);
        }
        due("image(1)", z.image(1), true);
        due("again(0)", z.again(0), true);
        due("all that is told", told(z).equals(before), true);
        due("again(1)", z.again(1), true);
        for (int i = 0; i < 2; i++) {
            due("TASKS", z.task(i, NONE, 0), i == 0 ? 3 : 7);
            due("STEPS of TASK 0", z.task(i, 0, 0), i == 0 ? 0 : 6);
            due("STEPS of TASK 1", z.task(i, 1, 0), i == 0 ? 3 : 6);
            due("DEEDS", z.deed(i, NONE, 0), i == 0 ? 1 : 40);
            due("FACTS", z.fact(i, NONE, 0), i == 0 ? 0 : 8);
            due("KEYS", z.store(i, 2), i == 0 ? 1 << 7 : 1 << 8);
            due("WORKERS", z.store(i, 1), i == 0 ? 4 : 2);
        }
        under("promise 25: what is told behind again() goes on from the image");
        due("text", y.text(1, NONE), 0);
        due("text", y.text(1, NONE), 1);
        due("text", y.text(1, NONE), NO_SUCH);
        due("again(1)", y.again(1), true);
        due("text", y.text(1, NONE), 1);
    }
}
