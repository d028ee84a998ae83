/** What the tests by hand share: answers held against those that are due, under the sentence of the document at stake. */
abstract class Answers {
    static final int NONE = EpochEngine.NONE;
    static final int NO_SUCH = -2;
    private static String sentence = "";
    private static int asked = 0;
    private static int wrong = 0;

    /** Which promise or term the answers that follow hold; every message begins with it. */
    static void under(String promiseOrTerm) {
        sentence = promiseOrTerm;
    }

    static void due(String call, int got, int want) {
        asked++;
        if (got != want) {
            wrong++;
            System.out.println(sentence + ": " + call + " answered " + got + ", due is " + want);
        }
    }

    static void due(String call, boolean got, boolean want) {
        due(call, got ? 1 : 0, want ? 1 : 0);
    }

    /** Ends the test: exit code 1 if there was a wrong answer. */
    static void finish(String test) {
        System.out.println(test + ": " + asked + " answers, " + wrong + " wrong");
        if (wrong > 0) {
            System.exit(1);
        }
    }

    static EpochEngine told(String store, String tasks, String... schedules) {
        EpochEngine x = new EpochEngine();
        due("text of " + store, Teller.tell(x, 0, NONE, store), 0);
        due("text of " + tasks, Teller.tell(x, 1, NONE, tasks), 0);
        for (int i = 0; i < schedules.length; i++) {
            due("text of " + schedules[i], Teller.tell(x, 2, NONE, schedules[i]), i);
        }
        return x;
    }

    /** A text for a new object, and its FAULT (0: none) with its place. */
    static void dueFault(int sort, String text, int kind, int place) {
        EpochEngine x = new EpochEngine();
        String shown = "'" + text + "' (sort " + sort + ")";
        due("text of " + shown, Teller.tell(x, sort, NONE, text), kind == 0 ? 0 : NONE);
        due("FAULT of " + shown, x.fault(0), kind);
        due("place of the FAULT of " + shown, x.fault(1), place);
        due("count behind " + shown, x.count(sort), kind == 0 ? 1 : 0);
    }

    static void dueState(EpochEngine x, int n, int what, int want) {
        due("state(0, 0, 0, " + n + ", " + what + ")", x.state(0, 0, 0, n, what), want);
    }

    /** All four answers of why() of a deed of the first schedule. */
    static void dueWhy(EpochEngine x, int k, int... want) {
        for (int what = 0; what < want.length; what++) {
            due("why(0, 0, 0, " + k + ", " + what + ")", x.why(0, 0, 0, k, what), want[what]);
        }
    }

    static void dueStop(String store, String tasks, String schedule, int want) {
        due("stop of '" + schedule + "' by '" + tasks + "' at '" + store + "'", told(store, tasks, schedule).stop(0, 0, 0), want);
    }
}
