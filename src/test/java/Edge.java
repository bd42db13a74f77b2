import java.lang.reflect.Method;
import java.lang.reflect.Modifier;
import java.util.Arrays;
import java.util.Comparator;
import java.util.Set;
import java.util.TreeSet;
import java.util.function.IntPredicate;
import java.util.function.IntUnaryOperator;

/** What the tests of the document's edges share. A test is a method whose name begins with p and its promise's two digits. */
abstract class Edge {
    static final int NONE = WeepingPiano.NONE;
    static final int LEAST = Integer.MIN_VALUE;
    static final int MOST = Integer.MAX_VALUE;
    private static String test = "";

    static void due(String what, long got, long want) {
        Check.due(test + ": " + what, got, want);
    }

    static void due(String what, boolean got, boolean want) {
        Check.due(test + ": " + what, got, want);
    }

    /** It is so at the ends of a range, and neither just nor far beyond them. */
    static void within(String what, IntPredicate is, int low, int high) {
        for (int v : new int[] {low, high}) due(what + " " + v, is.test(v), true);
        for (int v : new int[] {low - 1, high + 1, LEAST, MOST}) due(what + " " + v, is.test(v), false);
    }

    static void answered(String what, IntUnaryOperator call, int low, int high) {
        within(what, v -> call.applyAsInt(v) != NONE, low, high);
    }

    /** What is refused for each of these. */
    static void refused(String what, IntUnaryOperator call, int... those) {
        for (int v : those) due(what + " " + v, call.applyAsInt(v), NONE);
    }

    /** PIECES of one minute, neither sad nor hard, and PLAYERS of no art and no wish. */
    static WeepingPiano piano(int pieces, int players) {
        WeepingPiano x = new WeepingPiano();
        for (int i = 0; i < pieces; i++) x.piece(1, 0, 0);
        for (int i = 0; i < players; i++) x.player(0, 0);
        return x;
    }

    /** Two PIECES of one minute and a PLAYER, with a law. */
    static WeepingPiano lawful(String law) {
        WeepingPiano x = piano(2, 1);
        told(x, 0, law);
        return x;
    }

    /** A text that must be taken, with as many lines as it has semicolons. */
    static void told(WeepingPiano x, int k, String text) {
        int lines = (int) text.chars().filter(c -> c == ';').count();
        due("text(" + k + ") of '" + text + "'", Check.tell(x, k, text), lines);
    }

    static void faulty(WeepingPiano x, int k, String text, int fault, int place) {
        due("text(" + k + ") of '" + text + "'", Check.tell(x, k, text), NONE);
        due("fault of '" + text + "'", x.fault(0), fault);
        due("place of '" + text + "'", x.fault(1), place);
    }

    static void line(WeepingPiano x, int i, int day, int what, int which, int much) {
        int[] want = {day, what, which, much};
        for (int w = 0; w < 4; w++) due("book(" + i + ", " + w + ")", x.book(i, w), want[w]);
    }

    static int drawn(int state, int draws) {
        int s = state;
        for (int i = 0; i < draws; i++) s = s * 1664525 + 1013904223;
        return s;
    }

    /** The STATE that becomes this one by a DRAW. */
    static int stateAhead(int next) {
        int inverse = 1664525;
        for (int i = 0; i < 5; i++) inverse *= 2 - 1664525 * inverse;
        return (next - 1013904223) * inverse;
    }

    /** Whether a string goes flat, if its damps is so much and STATE becomes this one by the DRAW. */
    static boolean goesFlat(int damps, int next) {
        WeepingPiano x = piano(1, 1);
        told(x, 0, "damps " + damps + " when string=0;damps 0;");
        x.state(stateAhead(next));
        x.play(0, 0);
        due("one draw", x.look(10), damps > 0 ? next : stateAhead(next));
        return x.string(0, 0) == 1;
    }

    /** SALT so much, by at most 80 nights, in at most 163 calls; WATER is 0 then. */
    static void salted(WeepingPiano x, int salt) {
        for (int night = 0; night < salt / 125; night++) {
            x.set(5, 0, 999);
            x.days(1);
        }
        x.set(5, 0, salt % 125 * 8);
        x.days(1);
        x.set(5, 0, 0);
        due("salt", x.look(3), salt);
    }

    /** Runs every test of these classes; each promise from 1 to 37 must have one. */
    static void runAll(Class<?>... homes) {
        Set<Integer> promises = new TreeSet<>();
        for (Class<?> home : homes) {
            Method[] methods = home.getDeclaredMethods();
            Arrays.sort(methods, Comparator.comparing(Method::getName));
            for (Method m : methods) {
                if (m.getName().matches("p\\d\\d\\w+") && Modifier.isStatic(m.getModifiers())) {
                    promises.add(Integer.parseInt(m.getName().substring(1, 3)));
                    run(m);
                }
            }
        }
        for (int p = 1; p <= 37; p++) Check.due("promise " + p + " has a test", promises.contains(p), true);
    }

    private static void run(Method m) {
        test = m.getName();
        int before = Check.askedSoFar();
        String thrown = "";
        try {
            m.invoke(null);
        } catch (ReflectiveOperationException e) {
            thrown = "" + e.getCause();
        }
        due("threw " + thrown, thrown.isEmpty(), true);
        due("asked for something", Check.askedSoFar() > before + 1, true);
    }
}
