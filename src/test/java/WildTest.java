import java.lang.reflect.InvocationTargetException;
import java.lang.reflect.Method;
import java.util.ArrayList;
import java.util.Comparator;
import java.util.List;
import java.util.Random;

/** Any arguments in any state: nothing is thrown, like calls answer alike, and a refusal changes nothing. */
public final class WildTest {
    private static final Due due = new Due("WildTest");
    private static final int[] EDGES = {Integer.MIN_VALUE, Integer.MIN_VALUE + 1, -61, -25, -3, -2, -1, 0, 1, 2, 3, 4, 5, 6, 8, 9,
        11, 12, 16, 17, 23, 24, 25, 60, 61, 108, 109, 255, 256, 65536, Integer.MAX_VALUE - 1, Integer.MAX_VALUE};
    private static final String SIGNS = "abcdefghijklmnopqrstuvwxosgbt;;;;0123123456789";

    public static void main(String[] args) throws IllegalAccessException {
        List<Method> face = new ArrayList<>();
        for (Method m : CableCars.class.getDeclaredMethods()) {
            if (java.lang.reflect.Modifier.isPublic(m.getModifiers())) {
                face.add(m);
            }
        }
        face.sort(Comparator.comparing(Method::getName));
        for (int seed = 0; seed < 400 && !due.isWrong(); seed++) {
            run(new Random(seed), face, seed);
        }
        due.end();
    }

    private static void run(Random random, List<Method> face, int seed) throws IllegalAccessException {
        CableCars x = new CableCars();
        CableCars twin = new CableCars();
        for (int i = 0; i < 300; i++) {
            if (random.nextInt(3) == 0) {
                typeSome(random, x, twin);
                continue;
            }
            Method m = face.get(random.nextInt(face.size()));
            if (m.getName().equals("digest") && random.nextInt(4) != 0) {
                continue;
            }
            Object[] arguments = new Object[m.getParameterCount()];
            for (int k = 0; k < arguments.length; k++) {
                arguments[k] = random.nextInt(3) == 0 ? EDGES[random.nextInt(EDGES.length)] : random.nextInt(6);
            }
            String call = "seed " + seed + ": " + m.getName() + java.util.Arrays.toString(arguments);
            boolean look = random.nextInt(40) == 0;
            long before = look ? state(x) : 0;
            try {
                long answer = ((Number) m.invoke(x, arguments)).longValue();
                due.is(call + " of a twin", ((Number) m.invoke(twin, arguments)).longValue(), answer);
                if (look && isRefusal(m, answer)) {
                    due.is(call + " changes nothing", state(x), before);
                    // looking at all items leaves findings of its own
                    state(twin);
                }
            } catch (InvocationTargetException e) {
                due.tell(call + " threw " + e.getCause());
            }
        }
        due.is("seed " + seed + ": digest of a twin", twin.digest(), x.digest());
    }

    private static void typeSome(Random random, CableCars x, CableCars twin) {
        int text = random.nextInt(3);
        int b = text == 2 ? '0' + random.nextInt(4) : SIGNS.charAt(random.nextInt(SIGNS.length()));
        if (text < 2 && random.nextInt(4) != 0) {
            // mostly a byte with which it can go on
            int place = x.count(3 + text) % 4;
            b = place == 3 ? ';' : place == 0 ? 'a' + random.nextInt(24)
                : place == 2 ? '1' + random.nextInt(9) : (text == 0 ? "osg" : "btb").charAt(random.nextInt(3));
        }
        due.is("type of a twin", twin.type(text, b), x.type(text, b));
    }

    private static boolean isRefusal(Method m, long answer) {
        String name = m.getName();
        if (name.equals("digest") || name.equals("get")) {
            return false;
        }
        return answer < -1 && answer > -16 || answer == Long.MIN_VALUE + 2;
    }

    private static long state(CableCars x) {
        long h = x.digest();
        for (int s = 0; s < 4; s++) {
            for (int form = 0; form < 3; form++) {
                for (int i = 0; i < 60; i++) {
                    h = 37 * h + x.get(s, form, i);
                }
            }
        }
        return h;
    }
}
