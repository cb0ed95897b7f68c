import java.lang.reflect.InvocationTargetException;
import java.lang.reflect.Method;
import java.util.ArrayList;
import java.util.Comparator;
import java.util.List;
import java.util.Random;

/** Any calls with any arguments, on any GREEN, whole or broken: none throws; the same calls answer alike. */
final class NeverThrowsTest {
    private static final int[] EDGES = {Integer.MIN_VALUE, Integer.MAX_VALUE, -1000, -2, -1, 0, 1, 2, 3, 4, 7, 8, 9,
        12, 13, 19, 20, 30, 31, 60, 61, 100, 101, 255, 256, 900, 2000000000};

    private NeverThrowsTest() {
    }

    public static void main(String[] args) throws ReflectiveOperationException {
        List<Method> methods = new ArrayList<>();
        for (Method m : SilenceMatch.class.getDeclaredMethods()) {
            if (java.lang.reflect.Modifier.isPublic(m.getModifiers())) {
                methods.add(m);
            }
        }
        methods.sort(Comparator.comparing(Method::getName));
        Check.due("public methods", methods.size(), 69);
        for (int seed = 0; seed < 400; seed++) {
            Check.due("run " + seed, run(methods, seed), run(methods, seed));
        }
        Check.finish("NeverThrowsTest");
    }

    private static long run(List<Method> methods, int seed) throws ReflectiveOperationException {
        Random random = new Random(seed);
        SilenceMatch x = new SilenceMatch();
        long sum = 0;
        int calls = 0;
        while (calls < 512) {
            if (random.nextInt(40) == 0 && calls < 450) {
                x.end(0);
                Check.tape(x, text(random));
                sum = 31 * sum + x.green();
                calls += 40;
            }
            sum = 31 * sum + call(x, methods.get(random.nextInt(methods.size())), random);
            calls++;
        }
        return sum;
    }

    private static long call(SilenceMatch x, Method m, Random random) throws ReflectiveOperationException {
        Object[] arguments = new Object[m.getParameterCount()];
        for (int i = 0; i < arguments.length; i++) {
            int n = random.nextInt(3) == 0 ? EDGES[random.nextInt(EDGES.length)] : random.nextInt(9);
            if (m.getParameterTypes()[i] == long.class) {
                arguments[i] = (long) n << random.nextInt(40);
            } else {
                arguments[i] = n;
            }
        }
        try {
            return ((Number) m.invoke(x, arguments)).longValue();
        } catch (InvocationTargetException e) {
            Check.due(m.getName() + java.util.Arrays.toString(arguments) + " threw " + e.getCause(), 1, 0);
            return 0;
        }
    }

    private static String text(Random random) {
        StringBuilder b = new StringBuilder("green wide 4 high 3 bell 40 laugh 3 odds 4;");
        int players = random.nextInt(9);
        for (int p = 0; p < players; p++) {
            b.append("player on ").append(p % 2).append(" at ").append(random.nextInt(12)).append(" loud ");
            b.append(random.nextInt(13)).append(" every ").append(4 + random.nextInt(27)).append(";");
        }
        for (int u = random.nextInt(4); u > 0; u--) {
            b.append("umpire at ").append(random.nextInt(12)).append(" deaf ").append(random.nextInt(4)).append(";");
        }
        for (int f = players < 2 ? 0 : random.nextInt(9); f > 0; f--) {
            b.append("friends ").append(f % players).append(" ").append((f + 1) % players).append(";");
        }
        if (random.nextInt(4) == 0) {
            b.setCharAt(random.nextInt(b.length()), (char) random.nextInt(256));
        }
        return b.toString();
    }
}
