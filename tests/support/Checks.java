import java.lang.reflect.InvocationTargetException;
import java.lang.reflect.Method;
import java.util.ArrayList;
import java.util.Arrays;
import java.util.Comparator;
import java.util.List;
import java.util.function.LongSupplier;

/** What the tests of the document's sentences share: a new object for each, what is due, and the run of them all. */
class Checks {
    static final int NONE = -1;
    static final int BELT = 1, TUNNEL = 2, EXIT = 3, SPLITTER = 4, SOURCE = 5, MACHINE = 6, SINK = 7;
    static final int UP = 0, RIGHT = 1, DOWN = 2, LEFT = 3;
    static final int LEAST = Integer.MIN_VALUE, MOST = Integer.MAX_VALUE;
    static final int[] ODD = {LEAST, LEAST + 1, -1000000, -2, MOST - 1, MOST, 1 << 30, 1000000};

    /** The object of the test that runs. */
    static FloorTurn x;

    private static String test = "";
    private static int asked = 0;
    private static int wrong = 0;
    private static final int[] refusals = new int[8];

    // ---- the run

    static void runAll(Class<?> tests) {
        Document document = Document.read();
        List<Method> all = testsOf(tests);
        for (Method method : all) {
            checkQuotes(method, document);
            runOne(method);
        }
        System.out.println(tests.getName() + ": " + all.size() + " sentences, " + wrong + " answers not as due");
        if (wrong != 0 || all.isEmpty()) {
            System.exit(1);
        }
    }

    static List<Method> testsOf(Class<?> tests) {
        List<Method> all = new ArrayList<>();
        for (Method method : tests.getDeclaredMethods()) {
            if (method.isAnnotationPresent(Says.class)) {
                all.add(method);
            }
        }
        all.sort(Comparator.comparing(Method::getName));
        return all;
    }

    private static void checkQuotes(Method method, Document document) {
        Says says = method.getAnnotation(Says.class);
        for (String words : says.words()) {
            if (!document.section(says.in()).contains(words)) {
                fail(method.getName() + " quotes what " + says.in() + " doesn't say: " + words);
            }
        }
    }

    private static void runOne(Method method) {
        test = method.getName();
        x = null;
        fresh();
        asked = 0;
        try {
            method.setAccessible(true);
            method.invoke(null);
            if (asked == 0) {
                fail(test + " asks nothing");
            }
            fresh();
        } catch (InvocationTargetException e) {
            fail(test + " ended with " + e.getCause() + " at " + Arrays.toString(e.getCause().getStackTrace()));
        } catch (IllegalAccessException e) {
            fail(test + " can't be called: " + e);
        }
    }

    private static void fail(String what) {
        wrong++;
        System.out.println(what);
    }

    // ---- what is due

    static void due(long got, long want) {
        asked++;
        if (got != want) {
            fail(test + ", question " + asked + ", line " + line() + ": answered " + got + ", due is " + want);
        }
    }

    private static int line() {
        for (StackTraceElement frame : new Throwable().getStackTrace()) {
            if (!frame.getClassName().equals("Checks")) {
                return frame.getLineNumber();
            }
        }
        return 0;
    }

    /** The call is refused with that number, and one more refusal of that number is counted. */
    static void refused(int number, LongSupplier call) {
        due(call.getAsLong(), number);
        refusals[-number]++;
        due(x.status(10 - number), refusals[-number]);
    }

    /** Ends with the object of before, on which no refusals were counted but those, and begins with a new one. */
    static void fresh() {
        if (x != null) {
            for (int k = 1; k <= 7; k++) due(x.status(10 + k), refusals[k]);
        }
        Arrays.fill(refusals, 0);
        x = new FloorTurn();
    }

    // ---- parts

    /** The cell at x and y. */
    static int at(int column, int row) {
        return 12 * row + column;
    }

    /** The cell that lies so many cells away on a side. */
    static int away(int cell, int side, int far) {
        int[] steps = {-12, 1, 12, -1};
        return cell + far * steps[side];
    }

    static int opposite(int side) {
        return (side + 2) % 4;
    }

    static void belt(int cell, int side) {
        due(x.build(cell, BELT, side, 0, 0), 1);
    }

    static void tunnel(int cell, int side) {
        due(x.build(cell, TUNNEL, side, 0, 0), 1);
    }

    static void exit(int cell, int side) {
        due(x.build(cell, EXIT, side, 0, 0), 1);
    }

    static void splitter(int cell, int outs) {
        due(x.build(cell, SPLITTER, outs, 0, 0), 1);
    }

    static void source(int cell, int side, int item, int period) {
        due(x.build(cell, SOURCE, side, item, period), 1);
    }

    static void machine(int cell, int side, int recipe) {
        due(x.build(cell, MACHINE, side, recipe, 0), 1);
    }

    static void sink(int cell) {
        due(x.build(cell, SINK, 0, 0, 0), 1);
    }

    // ---- parts and shelves told in short

    /** What part() tells of a cell: each pair is a number of what and the answer that is due. */
    static void tells(int cell, int... pairs) {
        for (int k = 0; k + 1 < pairs.length; k += 2) due(x.part(cell, pairs[k]), pairs[k + 1]);
    }

    static void fill(int s, long... elements) {
        for (int i = 0; i < elements.length; i++) due(x.set(s, i, elements[i]), 1);
    }

    static void holdsElements(int s, long... elements) {
        for (int i = 0; i < elements.length; i++) due(x.element(s, i), elements[i]);
    }
}
