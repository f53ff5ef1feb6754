import java.lang.reflect.Method;
import java.util.ArrayList;
import java.util.Arrays;
import java.util.Comparator;
import java.util.List;
import java.util.Random;

/** Every call with numbers far off and at every edge: none throws, each is as the Oracle says. */
public final class ExtremesTest {
    private static final int[] NUMBERS = {Integer.MIN_VALUE, Integer.MIN_VALUE + 1, -1000, -2, -1, 0, 0, 0, 1, 1, 2, 3,
        5, 8, 9, 10, 20, 21, 29, 30, 31, 32, 99, 100, 199, 200, 209, 210, 255, 400, 511, 1023, 1024, 2048,
        Integer.MAX_VALUE - 1, Integer.MAX_VALUE};
    private static final int OBJECTS = 150;
    private static final int CALLS = 480;

    public static void main(String[] args) throws Exception {
        List<Method> face = new ArrayList<>(Arrays.asList(TwoMouths.class.getDeclaredMethods()));
        face.removeIf(m -> !java.lang.reflect.Modifier.isPublic(m.getModifiers()));
        face.sort(Comparator.comparing(Method::getName));
        Random chance = new Random(40);
        Texts texts = new Texts(chance);
        int wrong = 0;
        for (int i = 0; i < OBJECTS; i++) {
            TwoMouths x = new TwoMouths();
            Oracle o = new Oracle();
            if (i % 3 > 0) {
                build(x, o, texts.livelyTown(), texts.mildLaw());
            }
            for (int j = 0; j < CALLS; j++) {
                Method m = face.get(chance.nextInt(face.size()));
                Object[] with = new Object[m.getParameterCount()];
                for (int k = 0; k < with.length; k++) {
                    with[k] = NUMBERS[chance.nextInt(NUMBERS.length)];
                }
                Object got = m.invoke(x, with);
                Object want = Oracle.class.getDeclaredMethod(m.getName(), m.getParameterTypes()).invoke(o, with);
                if (!got.equals(want)) {
                    wrong++;
                    System.out.println(m.getName() + Arrays.toString(with) + " answered " + got + ", due is " + want);
                }
            }
        }
        System.out.println(OBJECTS * CALLS + " calls at the edges, " + wrong + " wrong");
        if (wrong > 0) {
            System.exit(1);
        }
    }

    private static void build(TwoMouths x, Oracle o, String town, String law) {
        write(x, o, town);
        x.town();
        o.town();
        write(x, o, law);
        x.law();
        o.law();
    }

    private static void write(TwoMouths x, Oracle o, String text) {
        int[] n = new int[100];
        for (int i = 0; i < text.length(); i++) {
            n[i / 4] |= text.charAt(i) << 24 - i % 4 * 8;
        }
        for (int i = 0; 4 * i < text.length(); i += 5) {
            x.feed(n[i], n[i + 1], n[i + 2], n[i + 3], n[i + 4]);
            o.feed(n[i], n[i + 1], n[i + 2], n[i + 3], n[i + 4]);
        }
        x.end(text.length());
        o.end(text.length());
    }
}
