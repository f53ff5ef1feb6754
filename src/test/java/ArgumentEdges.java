import java.lang.reflect.Method;
import java.util.Arrays;

/**
 * Of every call that only asks: the last number on either side that is still allowed, and the first
 * that is not, for each argument; and that nothing changes, whether it is answered or refused.
 */
final class ArgumentEdges {
    private static final int MIN = Integer.MIN_VALUE;
    private static final int MAX = Integer.MAX_VALUE;

    // What Twins.lively has told: two laws, twelve talks.
    private static final int[] LAW = {0, 1};
    private static final int[] TALK = {0, 11};
    private static final int[] PERSON = {0, 9};
    private static final int[] HOUR = {0, 99};
    private static final int[] SET = {0, 1023};
    private static final int[] K = {0, MAX};
    private static final int[] TWO = {0, 1};

    private ArgumentEdges() {
    }

    static void run() {
        edges("11", "NONE without these.", "believes", at(0, 3), LAW, PERSON);
        edges("12", "NONE without these.", "has", at(0, 3), LAW, PERSON);
        edges("13", "NONE without these.", "known", at(0, 3, 5, 0), LAW, PERSON, HOUR, new int[] {0, 5});
        edges("14", "NONE without these.", "row", at(0, 3, 5, 3), LAW, PERSON, HOUR, SET);
        edges("15", "NONE without these.", "tells", at(0, 3), LAW, TALK);
        edges("16", "NONE without these.", "spread", at(0, 5, 1), LAW, HOUR, TWO);
        edges("17", "NONE without that LAW.", "last", at(0), LAW);
        edges("18", "NONE without these (1 to 8 PEOPLE to choose from, told ones 0 to 1023).", "fewest", at(0, 7, 8, 9),
                LAW, new int[] {1, 1020}, SET, HOUR);
        edges("19", "NONE without these (a FIRST one, too).", "silence", at(0, 3), LAW, new int[] {1, 8});
        edges("20", "NONE without these.", "crier", at(0, 5, 1), LAW, HOUR, TWO);
        edges("21", "NONE without these (HOUR 1 to 99).", "letter", at(0, 3, 5), LAW, PERSON, new int[] {1, 99});
        edges("24", "NONE without these (k below 0, too).", "rowAt", at(0, 3, 5, 0), LAW, PERSON, HOUR, K);
        edges("25", "NONE without these.", "mouths", at(0, 3, 5, 1), LAW, PERSON, HOUR, TWO);
        edges("26", "NONE without these (k below 0, too).", "turn", at(0, 1), LAW, K);
        edges("27", "NONE without these.", "byBook", at(0, 3), LAW, PERSON);
        edges("28", "NONE without that LAW.", "lies", at(0), LAW);
        edges("29", "NONE without these.", "doubts", at(0, 5), LAW, HOUR);
        edges("30", "NONE without these.", "apart", at(0, 3, 5), LAW, PERSON, HOUR);
        edges("31", "NONE without these.", "weight", at(0, 3, 5), LAW, PERSON, HOUR);
        edges("32", "NONE without these (HOUR 0 to 99).", "reach", at(3, 5), PERSON, HOUR);
        edges("33", "NONE without these (k below 0, too).", "way", at(0, 4, 11, 1), LAW, PERSON, SET, K);
        edges("34", "NONE without these.", "moved", at(0, 3, 3, 1), LAW, TALK, PERSON, TWO);
        edges("35", "NONE without these.", "two", at(0, 6, 5, 1), LAW, SET, HOUR, new int[] {0, 2});
        edges("37", "NONE without these.", "tried", at(0, 5, 4, 3, 50, 1), LAW, new int[] {1, 20}, new int[] {0, 8},
                PERSON, HOUR, TWO);
        chosen();
        silenced();
        withoutLaws();
    }

    private static int[] at(int... fine) {
        return fine;
    }

    private static int ask(TwoMouths x, String name, int[] with) {
        for (Method m : TwoMouths.class.getMethods()) {
            if (m.getName().equals(name) && m.getParameterCount() == with.length) {
                try {
                    return (Integer) m.invoke(x, Arrays.stream(with).boxed().toArray());
                } catch (ReflectiveOperationException e) {
                    throw new IllegalStateException(name + Arrays.toString(with), e);
                }
            }
        }
        throw new IllegalStateException("no " + name + " of " + with.length);
    }

    private static void edges(String section, String quote, String name, int[] fine, int[]... bounds) {
        Check c = Sentence.of(section, quote);
        for (int i = 0; i < bounds.length; i++) {
            for (int allowed : bounds[i]) {
                answered(c, name, with(fine, i, allowed));
            }
            refused(c, name, with(fine, i, bounds[i][0] - 1));
            refused(c, name, with(fine, i, MIN));
            if (bounds[i][1] < MAX) {
                refused(c, name, with(fine, i, bounds[i][1] + 1));
                refused(c, name, with(fine, i, MAX));
            }
        }
    }

    private static int[] with(int[] fine, int place, int number) {
        int[] changed = fine.clone();
        changed[place] = number;
        return changed;
    }

    private static void answered(Check c, String name, int[] with) {
        TwoMouths x = new TwoMouths();
        Twins.lively(x);
        int got = ask(x, name, with);
        c.due(name + Arrays.toString(with) + " is answered", got == -1 ? 0 : 1, 1);
        Twins.stays(c, Twins::lively, name + Arrays.toString(with), y -> ask(y, name, with), got);
    }

    private static void refused(Check c, String name, int[] with) {
        Twins.stays(c, Twins::lively, name + Arrays.toString(with), x -> ask(x, name, with), -1);
    }

    /** Of fewest: one to eight of whatever people, not nine or ten. */
    private static void chosen() {
        Check c = Sentence.of("18", "NONE without these (1 to 8 PEOPLE to choose from, told ones 0 to 1023).");
        for (int choose : new int[] {1, 512, 513, 1020, 255, 765}) {
            answered(c, "fewest", at(0, choose, 8, 99));
        }
        for (int choose : new int[] {0, 511, 1022, 767, 1023, 1024, 1025, -1, -256}) {
            refused(c, "fewest", at(0, choose, 8, 99));
        }
        for (int told : new int[] {1024, -1, -1023}) {
            refused(c, "fewest", at(0, 7, told, 99));
        }
    }

    /** Of silence: a first one is none of these. */
    private static void silenced() {
        Check c = Sentence.of("19", "NONE without these (a FIRST one, too).");
        for (int p = -1; p <= 10; p++) {
            if (p > 0 && p < 9) {
                answered(c, "silence", at(0, p));
            } else {
                refused(c, "silence", at(0, p));
            }
        }
        c.law("tell 1=1", 0);
        c.due("9 is no first one", c.x.silence(0, 9), 0);
        c.x.first(512);
        c.due("9 is one", c.x.silence(0, 9), -1).due("8 is none", c.x.silence(0, 8), 0);
    }

    private static void withoutLaws() {
        Check c = Sentence.of("1", "No TALKS, no LAWS.");
        c.town("talk 0 1 1;talk 1 2 2", 2);
        c.x.first(1);
        String[] names = {"believes", "has", "known", "row", "tells", "spread", "last", "fewest", "silence", "crier", "letter",
            "rowAt", "mouths", "turn", "byBook", "lies", "doubts", "apart", "weight", "way", "moved", "two", "tried"};
        for (String name : names) {
            for (Method m : TwoMouths.class.getDeclaredMethods()) {
                if (m.getName().equals(name)) {
                    int[] ones = new int[m.getParameterCount()];
                    Arrays.fill(ones, 1);
                    ones[0] = 0;
                    c.due(name + " without a law", ask(c.x, name, ones), -1);
                }
            }
        }
        c.law("tell 1=1", 0);
        for (String name : names) {
            for (Method m : TwoMouths.class.getDeclaredMethods()) {
                if (m.getName().equals(name)) {
                    int[] ones = new int[m.getParameterCount()];
                    Arrays.fill(ones, 1);
                    ones[0] = 0;
                    c.due(name + " with a law", ask(c.x, name, ones) == -1 ? 0 : 1, 1);
                }
            }
        }
    }
}
