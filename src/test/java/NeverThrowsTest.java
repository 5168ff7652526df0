import java.lang.reflect.InvocationTargetException;
import java.lang.reflect.Method;
import java.lang.reflect.Modifier;
import java.util.ArrayList;
import java.util.Arrays;
import java.util.Comparator;
import java.util.List;
import java.util.Random;

/** Whatever is asked, in whatever state, no call throws, and the same calls give the same answers. */
public final class NeverThrowsTest {
    private static final int[] ODD = {Integer.MIN_VALUE, Integer.MIN_VALUE + 1, Integer.MAX_VALUE, -1, CutCity.NONE, CutCity.BAD, 65536, 9999, 10000, 96, 97, 255, 256, 416, 417, 416416};
    private static final Due due = new Due("NeverThrowsTest");

    public static void main(String[] args) throws IllegalAccessException {
        List<Method> all = new ArrayList<>();
        for (Method one : CutCity.class.getDeclaredMethods()) if (Modifier.isPublic(one.getModifiers())) all.add(one);
        all.sort(Comparator.comparing(Method::getName));
        for (int seed = 0; seed < 600; seed++) {
            String first = play(seed, all);
            due.that("run " + seed + " throws not: " + first, !first.contains("threw"));
            if (seed % 10 == 0) due.that("run " + seed + " answers the same", first.equals(play(seed, all)));
        }
        due.end();
    }

    private static String play(int seed, List<Method> all) throws IllegalAccessException {
        Random r = new Random(seed);
        CutCity x = new CutCity();
        if (seed % 3 > 0) settle(x, r);
        int span = 1 + r.nextInt(40);
        StringBuilder answers = new StringBuilder();
        for (int i = 0; i < 450; i++) {
            Method one = all.get(r.nextInt(all.size()));
            Object[] args = new Object[one.getParameterCount()];
            for (int k = 0; k < args.length; k++) args[k] = r.nextInt(12) == 0 ? ODD[r.nextInt(ODD.length)] : r.nextInt(span) - 1;
            try {
                answers.append(one.invoke(x, args)).append(' ');
            } catch (InvocationTargetException e) {
                return one.getName() + Arrays.toString(args) + " threw " + e.getCause();
            }
        }
        return answers.toString();
    }

    private static void settle(CutCity x, Random r) {
        for (int i = 0; i < 6; i++) x.cell(i & 1);
        for (int i = 0; i < 8; i++) x.person(i % 6, r.nextInt(100), r.nextInt(4));
        String[] laws = {"cross a+p+k+d", "carry w<50|x", "halt h/(i-s)", "house d*f-p", "pay n*n/(n-n)"};
        for (int i = 0; i < 5; i++) Due.law(x, i & 1, 0, laws[i]);
        for (int i = 0; i < 15; i++) x.tie(i % 6, r.nextInt(6), r.nextInt(6), r.nextInt(2));
    }
}
