import java.lang.management.ManagementFactory;
import java.lang.reflect.Method;
import java.lang.reflect.Modifier;
import java.util.ArrayList;
import java.util.Comparator;
import java.util.List;
import java.util.Random;

/** Wild arguments in any state: no call throws; and calls make nothing, since all calls of a run live in one room. */
public final class WildTest {
    private static final int[] EDGES = {0, 1, -1, 2, 3, 4, 5, 6, 7, 8, 9, 10, 11, 12, 13, 15, 16, 20, 21, 24, 25, 30, 31, 50, 51, 59, 60,
        61, 99, 100, 255, 256, 400, 401, 999, 1000, 4095, 4096, 9999, 10000, Integer.MAX_VALUE, Integer.MIN_VALUE, -2,
        Integer.MAX_VALUE - 9, Integer.MIN_VALUE + 10};

    private static int wild(Random random) {
        return random.nextInt(8) == 0 ? random.nextInt() : EDGES[random.nextInt(EDGES.length)];
    }

    private static List<Method> calls() {
        List<Method> all = new ArrayList<>();
        for (Method m : WeepingPiano.class.getDeclaredMethods()) if (Modifier.isPublic(m.getModifiers())) all.add(m);
        all.sort(Comparator.comparing(Method::getName));
        return all;
    }

    private static void wildRun(int seed, List<Method> calls) {
        Random random = new Random(seed);
        WeepingPiano x = new WeepingPiano();
        for (int i = 0; i < 512; i++) {
            Method m = calls.get(random.nextInt(calls.size()));
            Object[] arguments = new Object[m.getParameterCount()];
            for (int k = 0; k < arguments.length; k++) {
                arguments[k] = m.getParameterTypes()[k] == boolean.class ? (Object) random.nextBoolean() : (Object) wild(random);
            }
            String thrown = "";
            try {
                m.invoke(x, arguments);
            } catch (ReflectiveOperationException e) {
                thrown = "" + e.getCause();
            }
            Check.due("seed " + seed + " " + m.getName() + " threw " + thrown, thrown.isEmpty(), true);
        }
    }

    private static void fullHouse(WeepingPiano x) {
        for (int i = 0; i < 12; i++) x.piece(30, 9, i % 10);
        for (int i = 0; i < 6; i++) x.player(9, i);
        Check.tell(x, 0, "weeps sad*art/9 when not(water>900 and(salt<3 or minute=5));damps flat+string*60;settles 1+fire when played<3 or day=7;");
        Check.tell(x, 1, "on 0 player 0 piece 0 1 2 3 4 5;".repeat(12));
        Check.tell(x, 2, "on 0 tune 1;on 0 fire 3;");
        Check.tell(x, 3, "piece 0 like 1;".repeat(16));
        for (int i = 0; i < 16; i++) x.tone(i * 7 % 61);
        for (int i = 0; i < 9; i++) x.pedal(i, 30, i);
    }

    private static void askAll(WeepingPiano x) {
        x.image(true);
        x.goes(20, 2);
        x.lasts(0, 31 << 3, 0);
        x.days(2);
        x.undo();
        x.play(3, 11);
        x.act(2, 50);
        x.text(0);
        for (int w = 0; w < 4; w++) {
            x.chords(145, 137, w);
            x.tune(w);
        }
        x.tune(25);
        x.canon(3, 3, 1);
        x.bar(24, 255, 1);
        x.beats(-1, 0);
        x.mud(2);
        x.whose(500, 1);
        x.have(2, 21);
        x.alike(-1);
        x.game(0);
        x.image(false);
    }

    private static void room() {
        com.sun.management.ThreadMXBean bean = (com.sun.management.ThreadMXBean) ManagementFactory.getThreadMXBean();
        long self = Thread.currentThread().getId();
        for (int i = 0; i < 3; i++) {
            WeepingPiano warm = new WeepingPiano();
            fullHouse(warm);
            askAll(warm);
        }
        WeepingPiano x = new WeepingPiano();
        fullHouse(x);
        bean.getThreadAllocatedBytes(self);
        long before = bean.getThreadAllocatedBytes(self);
        long idle = bean.getThreadAllocatedBytes(self) - before;
        before = bean.getThreadAllocatedBytes(self);
        askAll(x);
        long made = bean.getThreadAllocatedBytes(self) - before - idle;
        Check.due("bytes made by calls", made <= 64, true);
        before = bean.getThreadAllocatedBytes(self);
        WeepingPiano y = new WeepingPiano();
        made = bean.getThreadAllocatedBytes(self) - before;
        Check.due("a new object has fewer than 8000 elements: " + made, made < 32000 && y.look(0) == 0, true);
    }

    public static void main(String[] args) {
        List<Method> calls = calls();
        for (int seed = 0; seed < 300; seed++) wildRun(seed, calls);
        room();
        Check.close();
    }
}
