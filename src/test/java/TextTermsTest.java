/** Term 1, sentence by sentence: what may be at most, what is so at first, the FAULTS with their places. */
public final class TextTermsTest extends Answers {
    private static final String[] WORDS = {"span", "workers", "key", "read", "cut", "save", "put", "add", "scan", "task",
        "epoch", "crash", "step", "commit", "quit", "flush", "begin", "has", "lacks"};
    private static final int[] SORT_OF = {0, 0, 0, 1, 1, 1, 1, 1, 1, 1, 2, 2, 2, 2, 2, 2, 2, 3, 3};
    private static final int[] NUMBERS_OF = {1, 1, 2, 1, 1, 1, 2, 2, 2, 0, 0, 0, 1, 1, 1, 1, 2, 2, 1};
    private static final int TASK = 9;

    private TextTermsTest() {
    }

    public static void main(String[] args) {
        storeAtFirst();
        nodes();
        numbers();
        longRows();
        howMany();
        theTape();
        blanks();
        oddBytes();
        wordsOfSorts();
        wordsAsLongAsTheyGo();
        numbersOfWords();
        marks();
        theEnd();
        laterOnes();
        formAheadOfAll();
        firstByPlace();
        badLinesTell();
        atMostTwo();
        finish("TextTermsTest");
    }

    private static void storeAtFirst() {
        under("term 1: SPAN 2, WORKERS 2 at first, no KEY is there");
        EpochEngine x = new EpochEngine();
        due("the empty text", x.text(0, NONE), 0);
        due("SPAN", x.store(0, 0), 2);
        due("WORKERS", x.store(0, 1), 2);
        due("KEYS", x.store(0, 2), 0);
        for (int k = 0; k < 10; k++) {
            due("VALUE of " + k, x.store(0, 10 + k), NONE);
        }
        under("term 1: what is not told of a STORE is as at first");
        EpochEngine y = told("key 9 0;", "");
        due("SPAN", y.store(0, 0), 2);
        due("WORKERS", y.store(0, 1), 2);
        due("KEYS", y.store(0, 2), 1 << 9);
        EpochEngine z = told("span 4;", "");
        due("WORKERS", z.store(0, 1), 2);
        EpochEngine w = told("workers 3;", "");
        due("SPAN", w.store(0, 0), 2);
        under("term 1: TASKS, STEPS, DEEDS, FACTS of empty texts: none");
        EpochEngine v = told("", "", "");
        due("text of a DIARY", v.text(3, NONE), 0);
        due("TASKS", v.task(0, NONE, 0), 0);
        due("DEEDS", v.deed(0, NONE, 0), 0);
        due("FACTS", v.fact(0, NONE, 0), 0);
        due("STEPS of a TASK alone", told("", "task;").task(0, 0, 0), 0);
    }

    private static void nodes() {
        under("term 1: NODE of a KEY: it by SPAN, cut down");
        for (int span = 1; span <= 5; span++) {
            for (int key = 0; key < 10; key++) {
                EpochEngine x = told("span " + span + ";", "task;put " + key + " 1;", "begin 0 0;step 0;commit 0;");
                for (int n = 0; n < 10; n++) {
                    int there = n == key / span ? 1 : 0;
                    due("VERSION of NODE " + n + " by KEY " + key + ", SPAN " + span, x.state(0, 0, 0, 3, 40 + n),
                            n > 9 / span ? NO_SUCH : there);
                }
            }
        }
    }

    /** Every NUMBER of one or two digits in its place: a FAULT 2 there, unless it may be. */
    private static void dueRange(int sort, String ahead, String behind, int least, int most) {
        for (int n = 0; n < 100; n++) {
            boolean can = n >= least && n <= most;
            dueFault(sort, ahead + n + behind, can ? 0 : 2, can ? NONE : ahead.length());
            if (n < 10) {
                dueFault(sort, ahead + "0" + n + behind, can ? 0 : 2, can ? NONE : ahead.length());
            }
        }
    }

    private static void numbers() {
        under("term 1: SPAN 1 .. 5");
        dueRange(0, "span ", ";", 1, 5);
        under("term 1: WORKERS 1 .. 4");
        dueRange(0, "workers ", ";", 1, 4);
        under("term 1: KEYS 0 .. 9");
        dueRange(0, "key ", " 0;", 0, 9);
        dueRange(1, "task;read ", ";", 0, 9);
        dueRange(1, "task;cut ", ";", 0, 9);
        dueRange(1, "task;save ", ";", 0, 9);
        dueRange(1, "task;put ", " 0;", 0, 9);
        dueRange(1, "task;add ", " 0;", 0, 9);
        dueRange(1, "task;scan ", " 9;", 0, 9);
        dueRange(3, "has ", " 0;", 0, 9);
        dueRange(3, "lacks ", ";", 0, 9);
        under("term 1: a VALUE, how much: 0 .. 99");
        dueRange(0, "key 0 ", ";", 0, 99);
        dueRange(1, "task;put 0 ", ";", 0, 99);
        dueRange(1, "task;add 0 ", ";", 0, 99);
        dueRange(3, "has 0 ", ";", 0, 99);
        under("term 1: scan: two KEYS, the second not below the first");
        for (int first = 0; first < 10; first++) {
            dueRange(1, "task;scan " + first + " ", ";", first, 9);
        }
        under("term 1: a WORKER, 0 .. 3");
        dueRange(2, "step ", ";", 0, 3);
        dueRange(2, "commit ", ";", 0, 3);
        dueRange(2, "quit ", ";", 0, 3);
        dueRange(2, "flush ", ";", 0, 3);
        dueRange(2, "begin ", " 0;", 0, 3);
        under("term 1: a TASK, 0 .. 6");
        dueRange(2, "begin 0 ", ";", 0, 6);
        under("term 1: NUMBERS of two digits are as those of one");
        EpochEngine x = told("span 05;workers 04;key 09 07;", "task;put 08 06;");
        due("SPAN", x.store(0, 0), 5);
        due("WORKERS", x.store(0, 1), 4);
        due("VALUE of KEY 9", x.store(0, 19), 7);
        due("KEY of a STEP", x.task(0, 0, 11), 8);
        due("how much", x.task(0, 0, 12), 6);
    }

    private static void longRows() {
        under("term 1: a longer row of digits is no token (FAULT 1)");
        String[] rows = {"000", "001", "005", "100", "999", "0000", "4294967297", "18446744073709551617", "1".repeat(300)};
        for (String row : rows) {
            dueFault(0, "span " + row + ";", 1, 5);
            dueFault(0, "key 0 " + row + ";", 1, 6);
            dueFault(0, "key " + row + " 0;", 1, 4);
            dueFault(1, "task;scan 0 " + row + ";", 1, 12);
            dueFault(2, "begin 0 " + row + ";", 1, 8);
            dueFault(3, "lacks " + row + ";", 1, 6);
            dueFault(0, row, 1, 0);
            dueFault(0, "span 5 " + row + ";", 1, 7);
        }
    }

    private static void howMany() {
        under("term 1: TASKS, at most 7 (FAULT 3: an 8th, at its first token)");
        for (int n = 0; n <= 12; n++) {
            dueFault(1, " task;".repeat(n), n <= 7 ? 0 : 3, n <= 7 ? NONE : 43);
        }
        under("term 1: STEPS, at most 6 of each TASK (FAULT 3: a 7th, at its first token)");
        String[] steps = {"read 0;", "cut 0;", "save 0;", "put 0 0;", "add 0 0;", "scan 0 0;"};
        for (String step : steps) {
            for (int n = 0; n <= 8; n++) {
                int place = 5 + 6 * step.length();
                dueFault(1, "task;" + step.repeat(n), n <= 6 ? 0 : 3, n <= 6 ? NONE : place);
                int second = 10 + (6 + 6) * step.length();
                dueFault(1, "task;" + step.repeat(6) + "task;" + step.repeat(n), n <= 6 ? 0 : 3, n <= 6 ? NONE : second);
            }
            under("term 1: a STEP ahead of any TASK (FAULT 3, at its first token)");
            dueFault(1, step, 3, 0);
            dueFault(1, " \n" + step + "task;", 3, 2);
            under("term 1: STEPS, at most 6 of each TASK (FAULT 3: a 7th, at its first token)");
        }
        dueFault(1, ("task;" + "cut 0;".repeat(6)).repeat(7), 0, NONE);
        dueFault(1, ("task;" + "cut 0;".repeat(6)).repeat(7) + "cut 0;", 3, 287);
        under("term 1: DEEDS, at most 40 (FAULT 3: a 41st, at its first token)");
        String[] deeds = {"epoch;", "crash;", "step 0;", "commit 0;", "quit 0;", "flush 0;", "begin 0 0;"};
        for (String deed : deeds) {
            for (int n = 38; n <= 43; n++) {
                dueFault(2, deed.repeat(n), n <= 40 ? 0 : 3, n <= 40 ? NONE : 40 * deed.length());
            }
        }
        under("term 1: FACTS, at most 8 (FAULT 3: a 9th, at its first token)");
        String[] facts = {"has 0 0;", "lacks 0;"};
        for (String fact : facts) {
            for (int n = 0; n <= 12; n++) {
                dueFault(3, fact.repeat(n), n <= 8 ? 0 : 3, n <= 8 ? NONE : 64);
            }
        }
        under("term 1: lines of a STORE have no bound but the tape's");
        dueFault(0, "span 1;".repeat(85), 0, NONE);
        dueFault(0, "key 0 0;".repeat(75), 0, NONE);
    }

    private static void theTape() {
        under("term 1: the tape has at most 600 bytes, all of which are read");
        dueFault(0, " ".repeat(593) + "span 5;", 0, NONE);
        dueFault(0, " ".repeat(594) + "span 5", 1, 600);
        dueFault(0, "\n".repeat(599) + "#", 1, 599);
        dueFault(1, " ".repeat(592) + "read 10;", 3, 592);
        dueFault(0, " ".repeat(592) + "span 06;", 2, 597);
        EpochEngine x = told(" ".repeat(593) + "span 5;", "");
        due("SPAN at the tape's end", x.store(0, 0), 5);
        under("term 1: what was on the tape before is not read");
        EpochEngine y = new EpochEngine();
        Teller.put(y, "span 5;span 5;span 5;");
        due("end(7)", y.end(7), 7);
        due("text", y.text(0, NONE), 0);
        Teller.put(y, "span 4;span 3;span 1;");
        due("end(0)", y.end(0), 0);
        due("text", y.text(0, 0), 0);
        due("SPAN", y.store(0, 0), 2);
    }

    private static void blanks() {
        under("term 1: blanks (10, 32) between tokens, as many as there may be, or none");
        dueFault(0, "", 0, NONE);
        dueFault(0, " ", 0, NONE);
        dueFault(0, "\n", 0, NONE);
        dueFault(0, " \n".repeat(300), 0, NONE);
        dueFault(0, "\n \nspan \n 5\n\n;  \n", 0, NONE);
        dueFault(0, "span5;workers3;key0 7;", 0, NONE);
        dueFault(1, "task ; put 0 0 ;task\n;", 0, NONE);
        dueFault(2, "begin0 6;epoch;crash ;", 0, NONE);
        dueFault(3, "has0 99;lacks9;", 0, NONE);
        under("term 1: two NUMBERS need a blank between");
        dueFault(0, "key 07;", 1, 6);
        dueFault(0, "key 0\n7;", 0, NONE);
    }

    /** Where every one of the 256 bytes stands behind a word, ahead of a NUMBER, behind it, and alone. */
    private static void oddBytes() {
        for (int b = 0; b < 256; b++) {
            char c = (char) b;
            boolean blank = b == 10 || b == 32;
            boolean letter = c >= 'a' && c <= 'z';
            boolean digit = c >= '0' && c <= '9';
            under("term 1, FAULT 1: byte " + b + " behind a word");
            if (digit) {
                dueFault(0, "span" + c + "5;", c == '0' ? 0 : 2, c == '0' ? NONE : 4);
            } else {
                dueFault(0, "span" + c + "5;", blank ? 0 : 1, blank ? NONE : letter ? 0 : 4);
            }
            under("term 1, FAULT 1: byte " + b + " behind a NUMBER");
            if (digit) {
                dueFault(0, "span 0" + c + ";", c >= '1' && c <= '5' ? 0 : 2, c >= '1' && c <= '5' ? NONE : 5);
            } else {
                dueFault(0, "span 5" + c + ";", blank ? 0 : 1, blank ? NONE : c == ';' ? 7 : 6);
            }
            under("term 1, FAULT 1: byte " + b + " behind a line");
            dueFault(2, "crash;" + c, blank ? 0 : 1, blank ? NONE : 6);
            under("term 1, FAULT 1: byte " + b + " alone");
            for (int sort = 0; sort < 4; sort++) {
                dueFault(sort, "" + c, blank ? 0 : 1, blank ? NONE : 0);
            }
        }
    }

    /** A line of a word with as many NUMBERS as told, all 1. */
    private static String line(int word, int numbers) {
        return WORDS[word] + " 1".repeat(numbers) + ";";
    }

    /** What must stand ahead of a word so that it may stand there at all. */
    private static String ahead(int word) {
        return SORT_OF[word] == 1 && word != TASK ? "task;" : "";
    }

    private static void wordsOfSorts() {
        under("term 1: each sort has its words, and no other one's (FAULT 1 at the word)");
        for (int word = 0; word < WORDS.length; word++) {
            for (int sort = 0; sort < 4; sort++) {
                if (sort == SORT_OF[word]) {
                    dueFault(sort, ahead(word) + line(word, NUMBERS_OF[word]), 0, NONE);
                } else {
                    dueFault(sort, line(word, NUMBERS_OF[word]), 1, 0);
                    dueFault(sort, "  " + line(word, NUMBERS_OF[word]), 1, 2);
                }
            }
        }
    }

    private static void wordsAsLongAsTheyGo() {
        under("term 1: TOKENS, as long as they go: another word is none of these (FAULT 1 at its first byte)");
        for (int word = 0; word < WORDS.length; word++) {
            String name = WORDS[word];
            String numbers = " 1".repeat(NUMBERS_OF[word]) + ";";
            String[] others = {name + "a", "a" + name, name + name, name.substring(1), name.substring(0, name.length() - 1),
                name.substring(0, 1), name + "z", name.substring(0, 1) + " " + name.substring(1)};
            for (String other : others) {
                dueFault(SORT_OF[word], ahead(word) + other + numbers, 1, ahead(word).length());
            }
            dueFault(SORT_OF[word], ahead(word) + name.toUpperCase() + numbers, 1, ahead(word).length());
            for (int i = 0; i < name.length(); i++) {
                String other = name.substring(0, i) + "x" + name.substring(i + 1);
                dueFault(SORT_OF[word], ahead(word) + other + numbers, 1, ahead(word).length());
            }
        }
    }

    private static void numbersOfWords() {
        under("term 1: as many NUMBERS as a word has (FAULT 1 at the first token that is another)");
        for (int word = 0; word < WORDS.length; word++) {
            for (int numbers = 0; numbers <= 4; numbers++) {
                int due = NUMBERS_OF[word];
                int place = ahead(word).length() + WORDS[word].length() + 2 * Math.min(numbers, due) + (numbers > due ? 1 : 0);
                dueFault(SORT_OF[word], ahead(word) + line(word, numbers), numbers == due ? 0 : 1, numbers == due ? NONE : place);
            }
        }
    }

    private static void marks() {
        under("term 1: each line ends with ; (FAULT 1 at another token)");
        for (int word = 0; word < WORDS.length; word++) {
            String open = ahead(word) + WORDS[word] + " 1".repeat(NUMBERS_OF[word]);
            dueFault(SORT_OF[word], open + " " + WORDS[word], 1, open.length() + 1);
            dueFault(SORT_OF[word], open + ";;", 1, open.length() + 1);
            dueFault(SORT_OF[word], open + "; ;", 1, open.length() + 2);
            dueFault(SORT_OF[word], open + ":", 1, open.length());
            under("term 1: the end's place, where a line is not at its end (FAULT 1)");
            dueFault(SORT_OF[word], open, 1, open.length());
            dueFault(SORT_OF[word], open + " \n ", 1, open.length() + 3);
            under("term 1: each line ends with ; (FAULT 1 at another token)");
        }
    }

    /** One text, cut off behind each of its bytes. */
    private static void theEnd() {
        under("term 1: a text cut off (FAULT 1 at the end, or at a word that is none)");
        String text = "span 5; key 10 7;";
        int[] places = {NONE, 0, 0, 0, 4, 5, 6, NONE, NONE, 8, 8, 11, 12, 13, 14, 15, 16};
        for (int n = 0; n < places.length; n++) {
            dueFault(0, text.substring(0, n), places[n] == NONE ? 0 : 1, places[n]);
        }
        dueFault(0, text, 2, 12);
        under("term 1, promise 3: a text cut off by end(): what stood behind is nothing to it");
        for (int n = 0; n < places.length; n++) {
            EpochEngine x = new EpochEngine();
            due("the whole tape", Teller.put(x, text), text.length());
            due("end(" + n + ")", x.end(n), n);
            due("text of the first " + n, x.text(0, NONE), places[n] == NONE ? 0 : NONE);
            due("FAULT of the first " + n, x.fault(0), places[n] == NONE ? 0 : 1);
            due("its place", x.fault(1), places[n]);
        }
        EpochEngine y = new EpochEngine();
        due("the whole tape", Teller.put(y, "span 123;"), 9);
        due("end(7)", y.end(7), 7);
        due("text of 'span 12'", y.text(0, NONE), NONE);
        due("the end's place", y.fault(1), 7);
        under("term 1: tokens that end with the tape's 600 bytes");
        dueFault(2, " ".repeat(595) + "crash", 1, 600);
        dueFault(2, " ".repeat(596) + "cras", 1, 596);
        dueFault(0, " ".repeat(595) + "span1", 1, 600);
        dueFault(0, " ".repeat(593) + "span123", 1, 597);
        dueFault(2, " ".repeat(594) + "crash;", 0, NONE);
    }

    private static void laterOnes() {
        under("term 1: later ones strike (span, workers, key of one KEY)");
        EpochEngine x = told("span 5;span 1;workers 1;workers 4;key 3 7;key 4 9;key 3 0;", "task;read 0;read 0;task;read 0;", "crash;crash;");
        due("SPAN", x.store(0, 0), 1);
        due("WORKERS", x.store(0, 1), 4);
        due("VALUE of KEY 3", x.store(0, 13), 0);
        due("VALUE of KEY 4", x.store(0, 14), 9);
        due("KEYS", x.store(0, 2), 1 << 3 | 1 << 4);
        under("term 1: all others are further ones");
        due("TASKS", x.task(0, NONE, 0), 2);
        due("STEPS of TASK 0", x.task(0, 0, 0), 2);
        due("STEPS of TASK 1", x.task(0, 1, 0), 1);
        due("DEEDS", x.deed(0, NONE, 0), 2);
        Teller.tell(x, 3, NONE, "has 3 1;has 3 2;lacks 3;lacks 3;");
        due("FACTS", x.fact(0, NONE, 0), 4);
        due("FACT 0", x.fact(0, 0, 1), 1);
        due("FACT 1", x.fact(0, 1, 1), 2);
        due("FACT 3", x.fact(0, 3, 1), NONE);
        under("term 1: a NUMBER that can't be is a FAULT, though a later one would strike it");
        dueFault(0, "span 0;span 1;", 2, 5);
        dueFault(0, "workers 5;workers 1;", 2, 8);
    }

    private static void formAheadOfAll() {
        under("term 1: FAULT 1 ahead of all others, wherever these are");
        dueFault(0, "span 0;workers 9;key 99 0;#", 1, 26);
        dueFault(0, "span 0", 1, 6);
        dueFault(0, "span 0 0;", 1, 7);
        dueFault(1, "read 0;task", 1, 11);
        dueFault(1, "task;".repeat(8) + "tusk;", 1, 40);
        dueFault(1, "task;" + "cut 10;".repeat(7) + "cut;", 1, 57);
        dueFault(2, "crash;".repeat(41) + "crash 0;", 1, 252);
        dueFault(3, "lacks 10;".repeat(9) + "lacks", 1, 86);
        under("term 1: the first of several FAULTS 1");
        dueFault(0, "span # #", 1, 5);
        dueFault(0, "spam span", 1, 0);
        dueFault(0, "span 5;; #", 1, 7);
        dueFault(0, "span 555#", 1, 5);
    }

    private static void firstByPlace() {
        under("term 1: of FAULTS 2 and 3 the first by place");
        dueFault(0, "span 5;workers 0;span 0;", 2, 15);
        dueFault(0, "key 10 0;key 11 0;", 2, 4);
        dueFault(1, "task;scan 10 9;", 2, 10);
        dueFault(1, "task;scan 11 10;", 2, 10);
        dueFault(1, "task;scan 5 4;scan 10 10;", 2, 12);
        dueFault(2, "begin 4 7;", 2, 6);
        dueFault(2, "begin 3 7;", 2, 8);
        dueFault(1, "task;put 10 0;" + "task;".repeat(7), 2, 9);
        dueFault(1, "task;".repeat(8) + "put 10 0;", 3, 35);
        dueFault(1, "task;".repeat(7) + "put 10 0;task;", 2, 39);
        dueFault(1, "cut 10;task;", 3, 0);
        dueFault(1, "cut 0;task;cut 10;", 3, 0);
        dueFault(2, "step 4;" + "crash;".repeat(41), 2, 5);
        dueFault(2, "crash;".repeat(41) + "step 4;", 3, 240);
        dueFault(3, "lacks 10;" + "lacks 0;".repeat(9), 2, 6);
        dueFault(3, "lacks 0;".repeat(9) + "lacks 10;", 3, 64);
    }

    private static void badLinesTell() {
        under("term 1: a line with a NUMBER that can't be tells its STEP, DEED, FACT all the same");
        dueFault(1, "task;" + "cut 0;".repeat(6) + "cut 10;", 3, 41);
        dueFault(1, "task;" + "cut 0;".repeat(6) + "scan 5 4;", 3, 41);
        dueFault(1, "cut 10;", 3, 0);
        dueFault(1, "task;" + "cut 0;".repeat(5) + "cut 10;", 2, 39);
        dueFault(2, "crash;".repeat(40) + "begin 0 7;", 3, 240);
        dueFault(2, "crash;".repeat(39) + "begin 0 7;", 2, 242);
        dueFault(3, "lacks 0;".repeat(8) + "has 10 0;", 3, 64);
        dueFault(3, "lacks 0;".repeat(7) + "has 10 0;", 2, 60);
    }

    private static void atMostTwo() {
        under("term 1: STORES, texts of TASKS, SCHEDULES, DIARIES, at most 2 of each sort, from 0 on");
        for (int sort = 0; sort < 4; sort++) {
            EpochEngine x = new EpochEngine();
            due("the first of sort " + sort, x.text(sort, NONE), 0);
            due("the second of sort " + sort, x.text(sort, NONE), 1);
            due("a third of sort " + sort, x.text(sort, NONE), NO_SUCH);
            due("count of sort " + sort, x.count(sort), 2);
            for (int other = 0; other < 4; other++) {
                due("count of sort " + other, x.count(other), other == sort ? 2 : 0);
            }
        }
    }
}
