import java.lang.reflect.Method;
import java.util.ArrayList;
import java.util.Arrays;
import java.util.List;

/**
 * The emptiest and the fullest object: every call, with the numbers at its edges, answers as the
 * Oracle does, and what is full refuses one more.
 */
public final class FullTest {
    private static final int MAX = Integer.MAX_VALUE;
    // An object is used for 512 calls; what it takes to fill one is some 150.
    private static final int ASKED_OF_ONE = 340;
    // Who tells whom, hour by hour: 9 has 216 rows of 0 and 1, more than by any other town found.
    private static final String MOST_ROWS = "040617166707747313146362644872437535424549322825595838392989";
    private static final int[] LAW = {-1, 0, 5, 6};
    private static final int[] PERSON = {-1, 0, 4, 9, 10};
    private static final int[] HOUR = {-1, 0, 1, 50, 99, 100};
    private static final int[] TALK = {-1, 0, 29, 30};
    private static final int[] SET = {-1, 0, 1, 512, 1023, 1024};
    private static final int[] K = {-1, 0, 1, 9, 215, 216, MAX};
    private static final int[] WHAT = {-1, 0, 1, 2, 3};

    private static int wrong;
    private static int asked;

    private TwoMouths x;
    private Oracle o;
    private int calls;
    private final int kind;

    private FullTest(int kind) {
        this.kind = kind;
    }

    public static void main(String[] args) throws Exception {
        for (int kind = 0; kind < 4; kind++) {
            new FullTest(kind).askAll();
        }
        System.out.println(asked + " calls on the emptiest and the fullest objects, " + wrong + " wrong");
        if (wrong > 0) {
            System.exit(1);
        }
    }

    private void askAll() throws Exception {
        fill();
        grid("talks", TALK, WHAT);
        grid("person", PERSON, new int[] {-1, 0, 1, 2, 3, 99, 100, 150, 199, 200, 205, 209, 210});
        grid("believes", LAW, PERSON);
        grid("has", LAW, PERSON);
        grid("known", LAW, PERSON, HOUR, new int[] {-1, 0, 1, 2, 3, 4, 5, 6});
        grid("row", new int[] {0, 5}, PERSON, HOUR, SET);
        grid("tells", LAW, TALK);
        grid("spread", LAW, HOUR, WHAT);
        grid("last", LAW);
        grid("fewest", new int[] {5}, new int[] {0, 1, 513, 195, 511}, SET, new int[] {0, 99});
        grid("silence", new int[] {0, 5}, PERSON);
        grid("crier", LAW, HOUR, WHAT);
        grid("letter", new int[] {0, 5}, PERSON, new int[] {0, 1, 99, 100});
        grid("book", WHAT);
        grid("rowAt", new int[] {0, 5}, PERSON, HOUR, K);
        grid("mouths", LAW, PERSON, HOUR, WHAT);
        grid("turn", LAW, K);
        grid("byBook", LAW, PERSON);
        grid("lies", LAW);
        grid("doubts", LAW, HOUR);
        grid("apart", LAW, PERSON, HOUR);
        grid("weight", LAW, PERSON, HOUR);
        grid("reach", PERSON, HOUR);
        grid("way", new int[] {0, 5}, PERSON, SET, K);
        grid("moved", new int[] {0}, TALK, new int[] {0, 9}, WHAT);
        grid("two", LAW, SET, new int[] {0, 99}, WHAT);
        grid("tried", new int[] {0, 5}, new int[] {0, 1, 20, 21}, new int[] {0, 4, 8, 9}, new int[] {0, 9}, new int[] {0, 99},
                new int[] {0, 1});
        grid("count", new int[] {-1, 0, 1, 2, 3, 4, 5, 6, 7, 8, 9});
        ways();
        refuse();
    }

    /** The whole way of every row. */
    private void ways() throws Exception {
        for (int p = 0; p < 10; p++) {
            int row = o.rowAt(0, p, 99, 0);
            for (int k = 1; row >= 0; k++) {
                grid("way", new int[] {0}, new int[] {p}, new int[] {row}, new int[] {0, 1, 2, 3, 4, 5, 6, 7, 8, 9});
                row = o.rowAt(0, p, 99, k);
            }
        }
    }

    /** What is full takes nothing more, and what is empty takes it. */
    private void refuse() throws Exception {
        fill();
        // A letter is a 31st talk, but only as long as it is looked for.
        for (int p = 0; p < 10; p++) {
            call("letter", 0, p, 99);
            call("reach", p, 0);
            call("way", 0, p, 1, 0);
        }
        call("feed", 0x74656c6c, 0x20313d31, 0x20202020, 0x20202020, 0x20202020);
        call("end", 400);
        call("end", 401);
        call("law");
        call("town");
        call("talk", 0, 1, 1);
        call("entry", 0, 1, 1);
        for (int k = -1; k <= 4; k++) {
            call("back", k);
            call("image", k);
        }
        for (int what = 0; what <= 8; what++) {
            call("count", what);
        }
        call("entry", -1, 0, 0);
        call("entry", 0, 1, 1);
        call("end", 0);
        call("town");
        call("talk", 0, 1, 1);
        for (int what = 0; what <= 8; what++) {
            call("count", what);
        }
    }

    private void grid(String name, int[]... values) throws Exception {
        List<int[]> all = new ArrayList<>(List.of(new int[0]));
        for (int[] some : values) {
            List<int[]> more = new ArrayList<>();
            for (int[] with : all) {
                for (int value : some) {
                    int[] longer = Arrays.copyOf(with, with.length + 1);
                    longer[with.length] = value;
                    more.add(longer);
                }
            }
            all = more;
        }
        for (int[] with : all) {
            if (calls >= ASKED_OF_ONE) {
                fill();
            }
            call(name, with);
        }
    }

    private int call(String name, int... with) throws Exception {
        calls++;
        asked++;
        Class<?>[] types = new Class<?>[with.length];
        Arrays.fill(types, int.class);
        Method due = Oracle.class.getDeclaredMethod(name, types);
        Method method = TwoMouths.class.getMethod(name, types);
        Object[] numbers = Arrays.stream(with).boxed().toArray();
        int got = (Integer) method.invoke(x, numbers);
        int want = (Integer) due.invoke(o, numbers);
        if (got != want) {
            wrong++;
            System.out.println(kind + ": " + name + Arrays.toString(with) + " answered " + got + ", due is " + want);
        }
        return got;
    }

    private void write(String text) throws Exception {
        int[] n = new int[100];
        for (int i = 0; i < text.length(); i++) {
            n[i / 4] |= text.charAt(i) << 24 - i % 4 * 8;
        }
        for (int i = 0; 4 * i < text.length(); i += 5) {
            call("feed", n[i], n[i + 1], n[i + 2], n[i + 3], n[i + 4]);
        }
        call("end", text.length());
    }

    /**
     * 0: a new object with laws alone; 1: thirty talks among a few; 2: twelve deaf, twelve proud,
     * thirty talks of all; 3: as many rows as can be.
     */
    private void fill() throws Exception {
        x = new TwoMouths();
        o = new Oracle();
        write("tell 1=1");
        call("law");
        for (int law = 1; law <= (kind == 0 ? 4 : 3); law++) {
            write("tell hour<" + 20 * law);
            call("law");
        }
        if (kind > 0) {
            write("tell hour+from+to+believes+knows+mouths+shortest+rows+sees>0");
            call("law");
        }
        write("hush mouths>2 and sees=0;tell rows<40 or knows=0;tell believes=1 and shortest<3");
        call("law");
        if (kind > 0) {
            fillTown();
            fillRest();
        }
        int many = kind == 2 ? 12 : 0;
        int[] due = {30, 6, many, 20, kind == 3 ? 3 : 521, kind == 3 ? 0 : 64, MAX, 400, many};
        for (int what = 0; what < due.length; what++) {
            boolean full = call("count", what) == (kind > 0 ? due[what] : what == 1 ? 6 : 0);
            if (!full) {
                throw new IllegalStateException("count(" + what + ") of kind " + kind + " is not as it was to be");
            }
        }
        if (kind == 3 && call("known", 0, 9, 99, 0) != 216) {
            throw new IllegalStateException("9 has not as many rows as he was to have");
        }
        calls = 0;
    }

    private void fillTown() throws Exception {
        StringBuilder town = new StringBuilder();
        if (kind == 3) {
            town.append("need 9 3;need 5 3");
            for (int t = 0; t < 30; t++) {
                town.append(";talk").append(MOST_ROWS.charAt(2 * t)).append(' ').append(MOST_ROWS.charAt(2 * t + 1)).append(' ')
                        .append(t == 29 ? 99 : 1 + t);
            }
        } else if (kind == 1) {
            town.append("need 4 3;need 0 1");
            for (int t = 0; t < 30; t++) {
                int who = t % 6;
                town.append(";talk").append(who).append(' ').append(t % 5 == 4 ? 9 : (who + 1 + t / 6 % 4) % 6).append(' ')
                        .append(t == 29 ? 99 : 1 + t / 3);
            }
        } else {
            for (int i = 0; i < 12; i++) {
                town.append(i == 0 ? "" : ";").append("deaf").append(i % 10).append(' ').append(i * 8).append(' ')
                        .append(i * 8 + 3);
                town.append(";proud").append(i % 10).append(' ').append((i + 3) % 10);
            }
            for (int t = 0; t < 8; t++) {
                town.append(";talk").append(t).append(' ').append(t + 1).append(' ').append(t + 1);
            }
        }
        write(town.toString());
        call("town");
        for (int t = o.count(0); t < 30; t++) {
            call("talk", t % 10, (t * 3 + 1) % 10 == t % 10 ? (t + 1) % 10 : (t * 3 + 1) % 10, t == 29 ? 99 : 1 + t * 3);
        }
    }

    private void fillRest() throws Exception {
        call("first", kind == 3 ? 3 : 521);
        call("silent", kind == 3 ? 0 : 64);
        call("seed", MAX);
        for (int i = 0; i < 20; i++) {
            int t = i % 15;
            call("entry", o.talks(t, 0), o.talks(t, 1), i == 19 ? 99 : o.talks(t, 2));
        }
        for (int k = 0; k < 4; k++) {
            call("image", k);
        }
        write(" ".repeat(392) + "tell 1=1");
    }
}
