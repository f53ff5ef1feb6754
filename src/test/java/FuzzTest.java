import java.util.ArrayList;
import java.util.List;
import java.util.Random;

/** Compares TwoMouths with the Oracle, call by call, over runs made by chance (always the same). */
public final class FuzzTest {
    private static final int RUNS = 700;
    private static final int CALLS = 120;

    private final Random chance;
    private final Texts texts;
    private final TwoMouths x = new TwoMouths();
    private final Oracle o = new Oracle();
    private final List<String> calls = new ArrayList<>();
    private static final java.util.TreeMap<String, java.util.Set<Integer>> SEEN = new java.util.TreeMap<>();

    private FuzzTest(long seed) {
        chance = new Random(seed);
        texts = new Texts(chance);
    }

    private void same(String name, int got, int want, int... of) {
        StringBuilder call = new StringBuilder(name).append(java.util.Arrays.toString(of));
        calls.add(call + " -> " + got);
        SEEN.computeIfAbsent(name, n -> new java.util.TreeSet<>()).add(want);
        if (got != want) {
            throw new IllegalStateException(call + " answered " + got + ", the oracle " + want);
        }
    }

    private void write(String text) {
        int[] n = new int[5];
        same("end", x.end(0), o.end(0), 0);
        for (int at = 0; at < text.length(); at += 20) {
            for (int i = 0; i < 5; i++) {
                n[i] = 0;
                for (int j = 0; j < 4; j++) {
                    int place = at + 4 * i + j;
                    n[i] = n[i] << 8 | (place < text.length() ? text.charAt(place) & 255 : 0);
                }
            }
            same("feed", x.feed(n[0], n[1], n[2], n[3], n[4]), o.feed(n[0], n[1], n[2], n[3], n[4]), n);
        }
        same("end", x.end(text.length()), o.end(text.length()), text.length());
        calls.add("text: " + text);
    }

    private int person() {
        return chance.nextInt(40) == 0 ? 10 - 11 * chance.nextInt(2) : chance.nextInt(10);
    }

    private int hour() {
        return chance.nextInt(30) == 0 ? 100 - 101 * chance.nextInt(2)
                : chance.nextInt(chance.nextBoolean() ? 100 : 12);
    }

    private int set() {
        return chance.nextInt(30) == 0 ? 1024 - 1025 * chance.nextInt(2)
                : chance.nextInt(1024) & (chance.nextBoolean() ? 1023 : chance.nextInt(1024));
    }

    private int law() {
        int laws = o.count(1);
        return chance.nextInt(40) == 0 ? laws - (laws + 1) * chance.nextInt(2) : chance.nextInt(Math.max(1, laws));
    }

    private int talk() {
        int talks = o.count(0);
        return chance.nextInt(40) == 0 ? talks - (talks + 1) * chance.nextInt(2)
                : chance.nextInt(Math.max(1, talks));
    }

    private int what(int most) {
        return chance.nextInt(30) == 0 ? most + 1 - (most + 2) * chance.nextInt(2) : chance.nextInt(most + 1);
    }

    private void run() {
        boolean lively = chance.nextInt(3) > 0;
        write(lively ? texts.livelyTown() : texts.town());
        same("town", x.town(), o.town());
        write(lively ? texts.mildLaw() : texts.law());
        same("law", x.law(), o.law());
        int seeing = lively ? 1 + chance.nextInt(15) : set();
        same("first", x.first(seeing), o.first(seeing), seeing);
        for (int i = 0; i < CALLS; i++) {
            if (chance.nextInt(lively ? 8 : 3) == 0) {
                change();
            } else if (chance.nextInt(12) == 0) {
                search();
            } else {
                ask();
            }
        }
    }

    private void change() {
        int a = person();
        int b = person();
        int h = hour();
        int k = what(3);
        switch (chance.nextInt(16)) {
            case 0 -> {
                write(texts.town());
                same("town", x.town(), o.town());
                same("tape", x.count(7), o.count(7));
            }
            case 1, 2 -> {
                write(texts.law());
                same("law", x.law(), o.law());
                same("tape", x.count(7), o.count(7));
            }
            case 3, 4, 5 -> same("talk", x.talk(a, b, h), o.talk(a, b, h), a, b, h);
            case 6 -> {
                int s = set();
                same("first", x.first(s), o.first(s), s);
            }
            case 7 -> {
                int s = set() & set();
                same("silent", x.silent(s), o.silent(s), s);
            }
            case 8, 9, 10 -> enter(a, b, h);
            case 11 -> {
                int s = chance.nextInt();
                same("seed", x.seed(s), o.seed(s), s);
            }
            case 12 -> same("image", x.image(k), o.image(k), k);
            case 13 -> same("back", x.back(k), o.back(k), k);
            case 14 -> same("end", x.end(h - 20), o.end(h - 20), h - 20);
            default -> {
                // Of whatever the tape has by now: what a town's fault left, or nothing.
                if (chance.nextBoolean()) {
                    same("law", x.law(), o.law());
                } else {
                    same("town", x.town(), o.town());
                }
                same("tape", x.count(7), o.count(7));
            }
        }
    }

    private void enter(int a, int b, int h) {
        int t = talk();
        int who = o.talks(t, 0);
        int to = o.talks(t, 1);
        int hour = o.talks(t, 2);
        if (chance.nextInt(8) == 0) {
            same("entry", x.entry(a, b, h), o.entry(a, b, h), a, b, h);
        } else if (who >= 0 || chance.nextInt(8) == 0) {
            same("entry", x.entry(who, to, hour), o.entry(who, to, hour), who, to, hour);
        }
    }

    private void search() {
        int l = law();
        int p = person();
        int h = hour();
        int w = what(1);
        int t = talk();
        switch (chance.nextInt(5)) {
            case 0 -> {
                int choose = set();
                int told = set() & set();
                same("fewest", x.fewest(l, choose, told, h), o.fewest(l, choose, told, h), l, choose, told, h);
            }
            case 1 -> same("silence", x.silence(l, p), o.silence(l, p), l, p);
            case 2 -> same("crier", x.crier(l, h, w), o.crier(l, h, w), l, h, w);
            case 3 -> same("letter", x.letter(l, p, h), o.letter(l, p, h), l, p, h);
            default -> same("moved", x.moved(l, t, p, w), o.moved(l, t, p, w), l, t, p, w);
        }
    }

    private void ask() {
        int l = law();
        int p = person();
        int h = chance.nextBoolean() ? 99 : hour();
        int k = what(9);
        int w = what(1);
        int row = chance.nextBoolean() ? o.rowAt(l, p, h, k) : set();
        switch (chance.nextInt(25)) {
            case 0 -> same("believes", x.believes(l, p), o.believes(l, p), l, p);
            case 1 -> same("has", x.has(l, p), o.has(l, p), l, p);
            case 2, 3 -> {
                int what = what(5);
                same("known", x.known(l, p, h, what), o.known(l, p, h, what), l, p, h, what);
            }
            case 4 -> same("row", x.row(l, p, h, row), o.row(l, p, h, row), l, p, h, row);
            case 5 -> {
                int t = talk();
                same("tells", x.tells(l, t), o.tells(l, t), l, t);
            }
            case 6 -> same("spread", x.spread(l, h, w), o.spread(l, h, w), l, h, w);
            case 7 -> same("last", x.last(l), o.last(l), l);
            case 8 -> same("book", x.book(w), o.book(w), w);
            case 9 -> same("rowAt", x.rowAt(l, p, h, k), o.rowAt(l, p, h, k), l, p, h, k);
            case 10 -> same("mouths", x.mouths(l, p, h, w), o.mouths(l, p, h, w), l, p, h, w);
            case 11 -> same("turn", x.turn(l, k), o.turn(l, k), l, k);
            case 12 -> same("byBook", x.byBook(l, p), o.byBook(l, p), l, p);
            case 13 -> same("lies", x.lies(l), o.lies(l), l);
            case 14 -> same("doubts", x.doubts(l, h), o.doubts(l, h), l, h);
            case 15 -> same("apart", x.apart(l, p, h), o.apart(l, p, h), l, p, h);
            case 16 -> same("weight", x.weight(l, p, h), o.weight(l, p, h), l, p, h);
            case 17 -> same("reach", x.reach(p, h), o.reach(p, h), p, h);
            case 18, 19 -> same("way", x.way(l, p, row, k / 3), o.way(l, p, row, k / 3), l, p, row, k / 3);
            case 20 -> {
                int other = set();
                int what = what(2);
                same("two", x.two(l, other, h, what), o.two(l, other, h, what), l, other, h, what);
            }
            case 21 -> {
                int m = chance.nextInt(22);
                int b = chance.nextInt(5) == 0 ? what(8) : what(2);
                same("tried", x.tried(l, m, b, p, h, w), o.tried(l, m, b, p, h, w), l, m, b, p, h, w);
            }
            case 22 -> same("count", x.count(k), o.count(k), k);
            case 23 -> {
                int what = chance.nextBoolean() ? chance.nextInt(215) : what(2);
                same("person", x.person(p, what), o.person(p, what), p, what);
            }
            default -> {
                int t = talk();
                int what = what(2);
                same("talks", x.talks(t, what), o.talks(t, what), t, what);
            }
        }
    }

    public static void main(String[] args) {
        int runs = args.length > 0 ? Integer.parseInt(args[0]) : RUNS;
        long seed = args.length > 1 ? Long.parseLong(args[1]) : 20261118L;
        for (int i = 0; i < runs; i++) {
            FuzzTest run = new FuzzTest(seed + i);
            try {
                run.run();
            } catch (RuntimeException wrong) {
                run.calls.forEach(System.out::println);
                System.out.println("run " + i + ": " + wrong);
                System.exit(1);
            }
        }
        if (args.length > 2) {
            SEEN.forEach((name, of) -> System.out.println(name + " " + (of.size() > 40 ? of.size() + " answers" : of)));
        }
        System.out.println(runs + " runs by chance are as the oracle says");
    }
}
