import java.lang.reflect.Method;
import java.util.Arrays;

/** No call ever throws, whatever it is asked, in many states; and a refusal changes nothing. */
public final class EdgesTest {
    private static final int[] EDGES = {
        Integer.MIN_VALUE, Integer.MIN_VALUE + 1, -1000, -3, -2, -1, 0, 1, 2, 3, 4, 5, 6, 7, 9, 10, 11, 13, 14, 19, 20, 21,
        35, 36, 37, 40, 41, 45, 46, 50, 53, 54, 99, 100, 159, 160, 255, 256, 998, 999, 1000, 9999, 10000, 65536,
        Integer.MAX_VALUE - 60, Integer.MAX_VALUE - 2, Integer.MAX_VALUE - 1, Integer.MAX_VALUE
    };
    private static final int OBJECTS = 400, CALLS = 2000;
    private static long state = 7;

    private static int draw(int n) {
        state = state * 6364136223846793005L + 1442695040888963407L;
        return (int) ((state >>> 33) % n);
    }

    public static void main(String[] args) throws Exception {
        Method[] calls = Arrays.stream(BeachIsRelaid.class.getDeclaredMethods())
            .filter(m -> java.lang.reflect.Modifier.isPublic(m.getModifiers()))
            .sorted((a, b) -> a.getName().compareTo(b.getName())).toArray(Method[]::new);
        int changed = 0;
        for (int i = 0; i < OBJECTS && changed == 0; i++) {
            BeachIsRelaid x = new BeachIsRelaid();
            for (int j = 0; j < CALLS && changed == 0; j++) {
                Method call = calls[draw(calls.length)];
                Object[] of = new Object[call.getParameterCount()];
                int most = draw(3) == 0 ? EDGES.length : 12;
                for (int k = 0; k < of.length; k++) {
                    of[k] = EDGES[most == 12 ? 6 + draw(12) : draw(most)];
                }
                long[] was = j % 8 == 0 ? all(x) : null;
                long answer = ((Number) call.invoke(x, of)).longValue();
                boolean refused = answer < -1 && !call.getName().equals("text") && !call.getName().equals("crew");
                if (was != null && refused && !Arrays.equals(was, all(x))) {
                    changed++;
                    System.out.println(call.getName() + Arrays.toString(of) + " answered " + answer + " and changed something");
                }
            }
        }
        System.out.println(changed == 0 ? "no call threw, no refusal changed anything" : "a refusal changed something");
        if (changed != 0) {
            System.exit(1);
        }
    }

    private static long[] all(BeachIsRelaid x) {
        long[] all = new long[36 * 2 + 4 * 4 + 6 + 4];
        int n = 0;
        for (int c = 0; c < 36; c++) {
            all[n++] = x.told(c, 1);
            all[n++] = x.told(c, 2);
        }
        for (int one = 0; one < 4; one++) {
            for (int what = 3; what < 7; what++) {
                all[n++] = x.told(one, what);
            }
        }
        for (int what = 0; what < 6; what++) {
            all[n++] = x.count(what);
        }
        for (int s = 0; s < 4; s++) {
            all[n++] = x.copy(s, 0, s, 0, 3) * 10 + (x.crew(s, 1, 0, 0) == -13 ? 1 : 0);
        }
        return all;
    }
}
