import java.lang.reflect.InvocationTargetException;
import java.lang.reflect.Method;
import java.util.Arrays;
import java.util.Comparator;
import java.util.Random;

/** Any call with any numbers in any state ends and throws nothing, far beyond 512 calls, too. */
public final class RoughTest {
    static final int[] EDGES = {Integer.MIN_VALUE, Integer.MAX_VALUE, -1, -2, 10, 11, 40, 41, 120, 255, 256, 511, 512,
        1023, 1024, 65536, 999999, 1000000, 1 << 30, Integer.MIN_VALUE + 1, Integer.MAX_VALUE - 1};
    static final String[] TEXTS = {"w3,3,4;o5;u2;d9;a3;e2;a1;o0;d4;u7;n5,9;n12,20;n0,3;", "w1,1,0;o1;n0,99;",
        "w5,2,6;d5;e9;e6;a9;u9;u2;d6;d3;e8;e8;n0,99;n0,99;n0,99;n0,99;n0,99;", "w6,1,9;a1;a2;a3;e4;e5;e6;", "w2,2;"};

    static void feed(StampSheets x, String text) {
        x.sheet();
        for (int i = 0; i < text.length(); i++) {
            x.feed(text.charAt(i));
        }
        x.sheet();
    }

    static Object[] numbers(Random r, int n) {
        Object[] all = new Object[n];
        for (int i = 0; i < n; i++) {
            int dice = r.nextInt(20);
            all[i] = dice == 0 ? r.nextInt() : dice < 3 ? EDGES[r.nextInt(EDGES.length)]
                    : dice < 5 ? r.nextInt(1024) : r.nextInt(dice < 10 ? 10 : 3);
        }
        return all;
    }

    public static void main(String[] args) throws IllegalAccessException {
        Method[] face = StampSheets.class.getDeclaredMethods();
        face = Arrays.stream(face).filter(m -> (m.getModifiers() & 1) != 0).toArray(Method[]::new);
        // Reflection tells methods in no sure order, and the runs must be the same each time.
        Arrays.sort(face, Comparator.comparing(Method::getName));
        int calls = 0;
        for (int run = 0; run < 60; run++) {
            Random r = new Random(run);
            StampSheets x = new StampSheets();
            for (int i = 0; i < 2000; i++) {
                if (r.nextInt(60) == 0) {
                    feed(x, TEXTS[r.nextInt(TEXTS.length)]);
                }
                Method m = face[r.nextInt(face.length)];
                Object[] with = numbers(r, m.getParameterCount());
                try {
                    m.invoke(x, with);
                } catch (InvocationTargetException e) {
                    System.out.println("run " + run + ": " + m.getName() + Arrays.toString(with) + " threw " + e.getCause());
                    System.exit(1);
                }
                calls++;
            }
        }
        System.out.println(calls + " rough calls threw nothing");
    }
}
