import java.lang.reflect.InvocationTargetException;
import java.lang.reflect.Method;
import java.lang.reflect.Modifier;
import java.util.ArrayList;
import java.util.Arrays;
import java.util.Comparator;
import java.util.List;
import java.util.Random;

/** Calls with any arguments at all, in any order: none may throw, and all ERRORS answered are counted. */
public final class WildCallsTest {
    private static final int RUNS = 700;
    private static final int CALLS = 512;
    private static final int[] EDGES = {
        Integer.MIN_VALUE, Integer.MIN_VALUE + 1, -1000000001, -33, -2, -1, 0, 1, 2, 3, 4, 5, 6, 7, 8, 9, 15, 16, 23, 24,
        25, 32, 33, 59, 60, 61, 69, 70, 255, 256, 999, 1000, 9999, 10000, 999999, Integer.MAX_VALUE - 1, Integer.MAX_VALUE,
    };

    public static void main(String[] args) throws IllegalAccessException {
        List<Method> face = new ArrayList<>();
        for (Method method : FourthFace.class.getDeclaredMethods()) {
            if (Modifier.isPublic(method.getModifiers())) {
                face.add(method);
            }
        }
        // The order of reflection is free, that of the test must not be.
        face.sort(Comparator.comparing(Method::getName));
        for (int run = 0; run < RUNS; run++) {
            run(face, new Random(run));
        }
        System.out.println("WildCallsTest: " + RUNS + " runs, none threw");
    }

    private static void run(List<Method> face, Random random) throws IllegalAccessException {
        FourthFace x = new FourthFace();
        int tame = random.nextInt(10);
        StringBuilder calls = new StringBuilder();
        for (int i = 0; i < CALLS; i++) {
            Method method = face.get(random.nextInt(face.size()));
            Object[] arguments = new Object[method.getParameterCount()];
            for (int a = 0; a < arguments.length; a++) {
                boolean isLong = method.getParameterTypes()[a] == long.class;
                arguments[a] = isLong ? (Object) aWord(random) : (Object) aNumber(random, tame);
            }
            calls.append(method.getName()).append(Arrays.toString(arguments)).append('\n');
            try {
                method.invoke(x, arguments);
            } catch (InvocationTargetException thrown) {
                System.out.println("WildCallsTest: " + thrown.getCause() + " behind\n" + calls);
                System.exit(1);
            }
        }
    }

    private static int aNumber(Random random, int tame) {
        if (random.nextInt(10) < tame) {
            return random.nextInt(3) == 0 ? random.nextInt(60) : random.nextInt(4);
        }
        return random.nextInt(12) == 0 ? random.nextInt() : EDGES[random.nextInt(EDGES.length)];
    }

    private static long aWord(Random random) {
        String signs = "mtkpb0123+-*/%<=>|&!()";
        long word = 0;
        for (int i = 0; i < 8; i++) {
            word = word << 8 | signs.charAt(random.nextInt(signs.length()));
        }
        return random.nextInt(5) == 0 ? random.nextLong() : word;
    }
}
