import java.lang.reflect.InvocationTargetException;
import java.lang.reflect.Method;
import java.util.ArrayList;
import java.util.Comparator;
import java.util.List;
import java.util.Random;

/** Calls with any numbers at all, with a scene and without: nothing is ever thrown. */
public final class WildTest {
    private static final String[] TEXTS = {
        "sound a 0 0;sound b 99 99;voice 1 0;face 1 0;odds 16 1;",
        "sound ba 10 50;sound da 30 50;sound ga 50 50;voice 60 9;face 60 9;odds 0 99;hold ba 9;learn ba ga da;",
        "sound a 0 0;sound b 0 1;sound c 0 2;sound d 0 3;sound e 0 4;sound f 0 5;sound g 0 6;sound h 0 7;sound i 0 8;voice 60 9;face 60 9;",
        "call fused if ((((((((third*noticed))))))))<voice*face*9999;call seen if late=noise-dark and 0-9999*9999<1;", "", "call", "sound"};
    private static final int[] NUMBERS = {Integer.MIN_VALUE, Integer.MIN_VALUE + 1, -1000000, -101, -100, -99, -31, -30, -2, -1, 0, 1, 2, 3,
        4, 5, 6, 7, 9, 10, 16, 17, 20, 30, 33, 60, 66, 67, 99, 100, 101, 188, 300, 316, 399, 400, 500, 988, 1000, 1000000, 1000001,
        Integer.MAX_VALUE - 1, Integer.MAX_VALUE};
    private static final int OBJECTS = 400;
    private static final int CALLS = 512;

    public static void main(String[] args) throws IllegalAccessException {
        List<Method> methods = new ArrayList<>(List.of(LipsVoice.class.getDeclaredMethods()));
        methods.removeIf(m -> !java.lang.reflect.Modifier.isPublic(m.getModifiers()));
        methods.sort(Comparator.comparing(Method::getName));
        int passed = 0;
        int failed = 0;
        for (int seed = 0; seed < OBJECTS; seed++) {
            if (stands(methods, new Random(seed), seed)) {
                passed++;
            } else {
                failed++;
            }
        }
        System.out.println("WildTest: " + passed + " passed, " + failed + " failed");
        if (failed > 0) {
            System.exit(1);
        }
    }

    private static boolean stands(List<Method> methods, Random random, int seed) throws IllegalAccessException {
        LipsVoice x = new LipsVoice();
        for (int call = 0; call < CALLS; call++) {
            if (call % 100 == 0 && seed % 4 > 0) {
                feed(x, TEXTS[random.nextInt(TEXTS.length)]);
                x.scene();
                x.rules();
            }
            Method m = methods.get(random.nextInt(methods.size()));
            Object[] numbers = new Object[m.getParameterCount()];
            for (int k = 0; k < numbers.length; k++) {
                numbers[k] = random.nextInt(3) == 0 ? NUMBERS[random.nextInt(NUMBERS.length)] : random.nextInt(5) - 1;
            }
            try {
                m.invoke(x, numbers);
            } catch (InvocationTargetException thrown) {
                System.out.println("object " + seed + ": " + m.getName() + " " + List.of(numbers) + " threw " + thrown.getCause());
                return false;
            }
        }
        return true;
    }

    private static void feed(LipsVoice x, String text) {
        x.end(0);
        String padded = text + " ".repeat((20 - text.length() % 20) % 20);
        for (int k = 0; k < padded.length(); k += 20) {
            int[] n = new int[5];
            for (int j = 0; j < 20; j++) {
                n[j / 4] = n[j / 4] << 8 | padded.charAt(k + j);
            }
            x.feed(n[0], n[1], n[2], n[3], n[4]);
        }
        x.end(text.length());
    }
}
