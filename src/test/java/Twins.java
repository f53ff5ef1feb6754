import java.util.ArrayList;
import java.util.List;
import java.util.function.Consumer;
import java.util.function.ToIntFunction;

/**
 * Two objects to which the same was said. A call that must change nothing is made on one of them
 * alone; then both are looked at by all calls that show something.
 */
final class Twins {
    private static final int[] HOURS = {0, 1, 49, 50, 63, 64, 98, 99};

    private Twins() {
    }

    /** The call answers what is due, and nothing has changed by it. */
    static void stays(Check c, Consumer<TwoMouths> build, String name, ToIntFunction<TwoMouths> call, int want) {
        like(c, build, name, call, want, x -> { });
    }

    /** The call answers what is due, and all is as behind something else. */
    static void like(Check c, Consumer<TwoMouths> build, String name, ToIntFunction<TwoMouths> call, int want,
            Consumer<TwoMouths> otherwise) {
        TwoMouths asked = new TwoMouths();
        TwoMouths other = new TwoMouths();
        build.accept(asked);
        build.accept(other);
        c.due(name, call.applyAsInt(asked), want);
        otherwise.accept(other);
        List<String> now = look(asked);
        List<String> then = look(other);
        c.due(name + ", what is looked at behind it", now.size(), then.size());
        for (int i = 0; i < Math.min(now.size(), then.size()); i++) {
            boolean same = now.get(i).equals(then.get(i));
            c.due(name + " has changed " + then.get(i) + " to " + now.get(i), same ? 1 : 0, 1);
        }
    }

    /** Some of everything is told, so that a change of any of it can be seen. */
    static void lively(TwoMouths x) {
        text(x, "need 0 1;talk 0 1 1;talk 3 4 5");
        x.town();
        x.first(4);
        x.image(0);
        text(x, "need 3 1;need 4 3;deaf 5 50 63;deaf 9 99 99;proud 6 0;proud 2 9;talk 0 1 1;talk 0 2 1;"
                + "talk 1 3 2;talk 2 3 2;talk 9 3 4;talk 3 4 5;talk 4 3 6;talk 4 1 7;talk 0 5 50;talk 0 6 60;"
                + "talk 3 9 99");
        x.town();
        text(x, "tell 1=1");
        x.law();
        text(x, "hush from=9 or hour>6;tell rows<3");
        x.law();
        x.first(513);
        x.silent(128);
        x.seed(12345);
        x.entry(0, 1, 1);
        x.entry(1, 3, 2);
        x.entry(7, 8, 9);
        x.image(2);
        x.talk(7, 8, 9);
        x.entry(3, 9, 99);
        x.silent(160);
        text(x, "talk 7 8 9;need 1 3;deaf 2 0 1");
    }

    /** Puts a text on the tape alone. */
    static void text(TwoMouths x, String text) {
        x.end(0);
        Check.feed(x, text);
        x.end(text.length());
    }

    /** All that can be seen, the images and the tape last, as looking at these changes the rest. */
    private static List<String> look(TwoMouths x) {
        List<String> seen = new ArrayList<>();
        lookAtTold(x, seen);
        for (int p = 0; p < 10; p++) {
            for (int hour : HOURS) {
                seen.add("person(" + p + ", 100 + " + hour + ") = " + x.person(p, 100 + hour));
            }
            seen.add("byBook(0, " + p + ") = " + x.byBook(0, p));
        }
        for (int law = 0; law < 6; law++) {
            seen.add("last(" + law + ") = " + x.last(law));
            for (int p = 1; p < 10; p += 2) {
                seen.add("believes(" + law + ", " + p + ") = " + x.believes(law, p));
            }
        }
        seen.add("tried(0, 5, 4, 3, 99, 1) = " + x.tried(0, 5, 4, 3, 99, 1));
        for (int k = 3; k >= 0; k--) {
            seen.add("back(" + k + ") = " + x.back(k));
            seen.add("talks of it = " + x.count(0) + ", first " + x.count(4) + ", x " + x.count(6));
        }
        seen.add("town() of the tape = " + x.town() + ", tape " + x.count(7));
        seen.add("talks of it = " + x.count(0) + ", hour " + x.talks(0, 2) + ", need " + x.person(1, 0));
        return seen;
    }

    private static void lookAtTold(TwoMouths x, List<String> seen) {
        for (int what = 0; what < 9; what++) {
            seen.add("count(" + what + ") = " + x.count(what));
        }
        int talks = x.count(0);
        for (int t = 0; t < talks; t++) {
            seen.add("talk " + t + " = " + x.talks(t, 0) + " " + x.talks(t, 1) + " " + x.talks(t, 2));
        }
        for (int p = 0; p < 10; p++) {
            int proud = 0;
            for (int of = 0; of < 10; of += 3) {
                proud = 2 * proud + x.person(p, 200 + of);
            }
            seen.add("person " + p + " = " + x.person(p, 0) + " " + x.person(p, 1) + " " + x.person(p, 2)
                    + " " + proud);
        }
        seen.add("book = " + x.book(0) + " " + x.book(1) + ", lies " + x.lies(0));
    }
}
