import java.lang.reflect.InvocationTargetException;
import java.lang.reflect.Method;
import java.lang.reflect.Modifier;
import java.util.ArrayList;
import java.util.Comparator;
import java.util.List;
import java.util.Random;

/** No call throws, whatever its arguments and whatever was called ahead of it; and the same calls answer the same. */
public final class StrayTest {
    private static final int[] ODD = {
        Integer.MIN_VALUE, Integer.MIN_VALUE + 1, -17, -11, -2, -1, 0, 0, 1, 1, 2, 2, 3, 4, 5, 6, 7, 8, 9, 10,
        15, 16, 17, 23, 24, 25, 31, 32, 64, 99, 100, 101, 159, 160, 161, 255, 256, 1 << 16, 1 << 30,
        Integer.MAX_VALUE - 1, Integer.MAX_VALUE,
    };

    public static void main(String[] args) throws Exception {
        Checks due = new Checks("StrayTest");
        for (int seed = 0; seed < 40; seed++) {
            due.same("run " + seed + " again", run(due, seed, 4000).toString(), run(due, seed, 4000).toString());
        }
        due.end();
    }

    private static List<Method> calls() {
        List<Method> calls = new ArrayList<>();
        for (Method method : LineRemarks.class.getDeclaredMethods()) {
            if (Modifier.isPublic(method.getModifiers())) {
                calls.add(method);
            }
        }
        calls.sort(Comparator.comparing(Method::getName));
        return calls;
    }

    private static StringBuilder run(Checks due, int seed, int many) throws IllegalAccessException {
        Random random = new Random(seed);
        LineRemarks x = new LineRemarks();
        List<Method> calls = calls();
        StringBuilder answers = new StringBuilder();
        for (int r = 0; r < seed % 5; r++) {
            Checks.revise(x, "a/b/c/d/e/b/c".substring(r), r - 1);
        }
        for (int k = 0; k < many; k++) {
            Method call = calls.get(random.nextInt(calls.size()));
            Object[] with = new Object[call.getParameterCount()];
            int most = random.nextInt(3) == 0 ? ODD.length : 20;
            for (int i = 0; i < with.length; i++) {
                int odd = ODD[random.nextInt(most)];
                Class<?> type = call.getParameterTypes()[i];
                with[i] = type == boolean.class ? odd > 0 : type == long.class ? (Object) (odd * 4294967297L) : odd;
            }
            try {
                answers.append(call.invoke(x, with)).append(' ');
                due.that("answered", true);
            } catch (InvocationTargetException e) {
                due.that(call.getName() + java.util.Arrays.toString(with) + " threw " + e.getCause(), false);
            }
        }
        return answers;
    }
}
