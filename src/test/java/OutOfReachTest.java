import java.lang.reflect.Constructor;
import java.lang.reflect.Field;
import java.lang.reflect.Method;

/**
 * Sentences of term 2 that no run of calls can reach: EPOCH 50 (40 DEEDS lead to 41 at most, 60 draws of any SEED to 23),
 * and two lines of one STAMP that wrote one KEY (the later commit has a greater STAMP). They are held on the inside.
 */
public final class OutOfReachTest extends Answers {
    private static final int EPOCH = 0;
    private static final int CRASH = 1;
    private static final int STEP = 2;
    private static final int COMMIT = 3;
    private static final int FLUSH = 5;
    private static final int BEGIN = 6;

    private OutOfReachTest() {
    }

    public static void main(String[] args) throws ReflectiveOperationException {
        epochFifty();
        linesOfOneStamp(0, 1);
        linesOfOneStamp(1, 0);
        finish("OutOfReachTest");
    }

    private static Object get(Object of, String name) throws ReflectiveOperationException {
        Field field = of.getClass().getDeclaredField(name);
        field.setAccessible(true);
        return field.get(of);
    }

    private static void set(Object of, String name, int value) throws ReflectiveOperationException {
        Field field = of.getClass().getDeclaredField(name);
        field.setAccessible(true);
        field.setInt(of, value);
    }

    /** A machine at the first STORE and the first text of TASKS, at its beginning. */
    private static Object started(EpochEngine x) throws ReflectiveOperationException {
        Object told = get(x, "told");
        Object store = ((Object[]) get(told, "stores"))[0];
        Object book = ((Object[]) get(told, "books"))[0];
        Class<?> kind = get(x, "machine").getClass();
        Constructor<?> make = kind.getDeclaredConstructor(store.getClass(), book.getClass());
        make.setAccessible(true);
        Object machine = make.newInstance(store, book);
        Method start = kind.getDeclaredMethod("start", store.getClass(), book.getClass());
        start.setAccessible(true);
        start.invoke(machine, store, book);
        return machine;
    }

    private static boolean perform(Object machine, int kind, int worker, int task) throws ReflectiveOperationException {
        Method perform = machine.getClass().getDeclaredMethod("perform", int.class, int.class, int.class);
        perform.setAccessible(true);
        return (Boolean) perform.invoke(machine, kind, worker, task);
    }

    private static void epochFifty() throws ReflectiveOperationException {
        under("term 2: epoch: it is the next EPOCH, 50 at most");
        Object machine = started(told("", ""));
        for (int epoch = 1; epoch <= 52; epoch++) {
            due("the EPOCH", (Integer) get(machine, "epoch"), Math.min(epoch, 50));
            due("epoch in EPOCH " + epoch, perform(machine, EPOCH, NONE, NONE), epoch < 50);
        }
    }

    /** Two commits that wrote KEY 0, WORKER w its number and 1: as if their STAMPS were the same. */
    private static void linesOfOneStamp(int first, int second) throws ReflectiveOperationException {
        under("term 2: crash: of one STAMP the lesser WORKER's first");
        Object machine = started(told("", "task;put 0 1;task;put 0 2;"));
        for (int w : new int[] {first, second}) {
            due("begin", perform(machine, BEGIN, w, w), true);
            due("step", perform(machine, STEP, w, NONE), true);
            due("commit", perform(machine, COMMIT, w, NONE), true);
        }
        Object[] lines = (Object[]) get(machine, "lines");
        set(lines[0], "stamp", 101);
        set(lines[1], "stamp", 101);
        due("epoch", perform(machine, EPOCH, NONE, NONE), true);
        due("flush 0", perform(machine, FLUSH, 0, NONE), true);
        due("flush 1", perform(machine, FLUSH, 1, NONE), true);
        due("crash", perform(machine, CRASH, NONE, NONE), true);
        due("VALUE of KEY 0", ((int[]) get(machine, "value"))[0], 2);
    }
}
