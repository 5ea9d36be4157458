import java.lang.reflect.InvocationTargetException;
import java.lang.reflect.Method;
import java.lang.reflect.Modifier;
import java.util.ArrayList;
import java.util.Comparator;
import java.util.List;
import java.util.Random;

/** Any call with any numbers in any state: none throws, and water is kept throughout. */
public final class WildTest {
    private static final int[] EDGES = {Integer.MIN_VALUE, Integer.MIN_VALUE + 1, -1000001, -1000, -2, -1, 0, 1, 2, 3, 5,
        7, 8, 9, 10, 11, 15, 16, 17, 20, 29, 30, 39, 40, 41, 59, 60, 61, 98, 99, 100, 101, 199, 200, 201, 998, 999, 1000,
        9998, 9999, 10000, 65536, Integer.MAX_VALUE - 1, Integer.MAX_VALUE};
    private static Random random;

    private WildTest() {
    }

    public static void main(String[] args) throws IllegalAccessException {
        List<Method> calls = new ArrayList<>();
        for (Method m : CanalKeeper.class.getDeclaredMethods()) {
            if (Modifier.isPublic(m.getModifiers())) {
                calls.add(m);
            }
        }
        calls.sort(Comparator.comparing(Method::getName));
        for (int run = 0; run < 150; run++) {
            random = new Random(run);
            oneRun(calls, run);
        }
        Check.finish();
    }

    private static void oneRun(List<Method> calls, int run) throws IllegalAccessException {
        CanalKeeper k = new CanalKeeper();
        int atFirst = 0;
        for (int i = 0; i < 512; i++) {
            if (random.nextInt(60) == 0) {
                Texts texts = new Texts(random);
                k.end(0);
                Check.tape(k, random.nextInt(5) == 0 ? texts.spoilt() : texts.whole());
                if (k.canal() != CanalKeeper.NONE) {
                    atFirst = k.account(5);
                }
            }
            Method m = calls.get(random.nextInt(calls.size()));
            if (m.getName().equals("canal") && k.has(3) > 0) {
                continue;
            }
            try {
                m.invoke(k, wildNumbers(m.getParameterCount()));
            } catch (InvocationTargetException e) {
                e.getCause().printStackTrace(System.out);
                Check.due("run " + run + ", call " + i + ": " + m.getName() + " threw " + e.getCause(), 1, 0);
            }
            if (k.account(0) != CanalKeeper.NONE) {
                Check.due("run " + run + ", call " + i + ": water behind " + m.getName(),
                    k.account(1) + k.account(2) + k.account(3) + k.account(5),
                    atFirst + k.account(0) + k.account(4));
            }
        }
    }

    private static Object[] wildNumbers(int count) {
        Object[] numbers = new Object[count];
        for (int i = 0; i < count; i++) {
            int kind = random.nextInt(12);
            numbers[i] = kind == 0 ? random.nextInt() : kind < 5 ? EDGES[random.nextInt(EDGES.length)]
                : kind < 10 ? random.nextInt(4) : random.nextInt(100);
        }
        return numbers;
    }
}
