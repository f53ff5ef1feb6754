import java.util.ArrayList;
import java.util.Collections;
import java.util.HashMap;
import java.util.HashSet;
import java.util.List;
import java.util.Map;
import java.util.Set;
import java.util.TreeMap;
import java.util.TreeSet;
import java.util.function.ToLongFunction;

/**
 * A second reading of the document, written as slowly and as near to its words as can be, to be
 * compared with TwoMouths call by call. It shares no code and no way of counting with it.
 */
final class Oracle {
    record Talk(int who, int to, int hour) { }

    record Deaf(int person, int from, int till) { }

    record Proud(int person, int of) { }

    static final class Fault extends RuntimeException {
        private static final long serialVersionUID = 1L;
        final int number;

        Fault(int place, int kind) {
            super("fault", null, false, false);
            number = 1 + 8 * place + kind;
        }
    }

    static final class Place {
        List<Talk> talks = new ArrayList<>();
        List<Deaf> deaf = new ArrayList<>();
        List<Proud> proud = new ArrayList<>();
        Map<Integer, Integer> need = new HashMap<>();
        List<Talk> book = new ArrayList<>();
        Set<Integer> first = new TreeSet<>();
        Set<Integer> silent = new TreeSet<>();
        int x;

        Place copy() {
            Place p = new Place();
            p.talks.addAll(talks);
            p.deaf.addAll(deaf);
            p.proud.addAll(proud);
            p.need.putAll(need);
            p.book.addAll(book);
            p.first.addAll(first);
            p.silent.addAll(silent);
            p.x = x;
            return p;
        }

        int needOf(int person) {
            return need.getOrDefault(person, 2);
        }

        boolean deafAt(int person, int hour) {
            return deaf.stream().anyMatch(d -> d.person == person && d.from <= hour && hour <= d.till);
        }

        boolean hears(int hearer, int teller, int hour) {
            return !deafAt(hearer, hour) && !proud.contains(new Proud(hearer, teller));
        }
    }

    // ---- texts

    /** Signs of a text with their places; a text is cut into these before it is read. */
    record Sign(int place, char kind, String text) { }

    private static List<Sign> cut(List<Integer> tape) {
        List<Sign> signs = new ArrayList<>();
        int i = 0;
        while (i < tape.size()) {
            int c = tape.get(i);
            int from = i;
            StringBuilder text = new StringBuilder();
            if (c == 32) {
                i++;
                continue;
            }
            if (c >= 'a' && c <= 'z') {
                while (i < tape.size() && tape.get(i) >= 'a' && tape.get(i) <= 'z') {
                    text.append((char) (int) tape.get(i++));
                }
                signs.add(new Sign(from, 'w', text.toString()));
            } else if (c >= '0' && c <= '9') {
                while (i < tape.size() && tape.get(i) >= '0' && tape.get(i) <= '9') {
                    text.append((char) (int) tape.get(i++));
                }
                signs.add(new Sign(from, 'n', text.toString()));
            } else {
                text.append((char) c);
                i++;
                if ((c == '<' || c == '>') && i < tape.size() && tape.get(i) == '=') {
                    text.append('=');
                    i++;
                }
                signs.add(new Sign(from, 's', text.toString()));
            }
        }
        signs.add(new Sign(tape.size(), 'e', ""));
        return signs;
    }

    static final class Cursor {
        final List<Sign> signs;
        int at;
        int pieces;

        Cursor(List<Sign> signs) {
            this.signs = signs;
        }

        Sign look() {
            return signs.get(at);
        }

        boolean is(String text) {
            return look().kind != 'n' && look().text.equals(text) && look().kind != 'e';
        }

        Sign take() {
            return signs.get(at++);
        }

        RuntimeException wrong() {
            return new Fault(look().place, 0);
        }

        int number() {
            if (look().kind != 'n') {
                throw wrong();
            }
            if (look().text.length() > 5) {
                throw new Fault(look().place, 1);
            }
            return Integer.parseInt(take().text);
        }

        int number(int least, int most, int not) {
            int place = look().place;
            int n = number();
            if (n < least || n > most || n == not) {
                throw new Fault(place, 1);
            }
            return n;
        }

        void piece(int place) {
            if (++pieces > 60) {
                throw new Fault(place, 3);
            }
        }

        boolean goesOn() {
            if (look().kind == 'e') {
                return false;
            }
            if (!is(";")) {
                throw wrong();
            }
            take();
            return true;
        }
    }

    private static Place readTown(List<Integer> tape) {
        Cursor c = new Cursor(cut(tape));
        Place p = new Place();
        int clauses = 0;
        do {
            Sign s = c.look();
            if (!Set.of("need", "deaf", "proud", "talk").contains(s.text) || s.kind != 'w') {
                throw c.wrong();
            }
            boolean many = ++clauses > 32;
            many |= s.text.equals("talk") && p.talks.size() == 30;
            many |= s.text.equals("deaf") && p.deaf.size() == 12;
            many |= s.text.equals("proud") && p.proud.size() == 12;
            if (many) {
                throw new Fault(s.place, 4);
            }
            c.take();
            int person = c.number(0, 9, -1);
            switch (s.text) {
                case "need" -> p.need.put(person, c.number(1, 3, -1));
                case "deaf" -> {
                    int from = c.number(0, 99, -1);
                    p.deaf.add(new Deaf(person, from, c.number(from, 99, -1)));
                }
                case "proud" -> p.proud.add(new Proud(person, c.number(0, 9, person)));
                default -> {
                    int to = c.number(0, 9, person);
                    p.talks.add(new Talk(person, to, c.number(1, 99, -1)));
                }
            }
        } while (c.goesOn());
        return p;
    }

    /** What the words of a TALK are worth. */
    record Words(Map<String, Long> of) { }

    interface Test {
        boolean holds(Words w);
    }

    record Clause(boolean hush, Test test) { }

    private static List<Clause> readLaw(List<Integer> tape) {
        Cursor c = new Cursor(cut(tape));
        List<Clause> law = new ArrayList<>();
        do {
            if (!c.is("tell") && !c.is("hush")) {
                throw c.wrong();
            }
            if (law.size() == 12) {
                throw new Fault(c.look().place, 4);
            }
            boolean hush = c.take().text.equals("hush");
            law.add(new Clause(hush, test(c, 0)));
        } while (c.goesOn());
        return law;
    }

    private static Test test(Cursor c, int depth) {
        List<Test> parts = new ArrayList<>(List.of(part(c, depth)));
        while (c.is("or")) {
            c.take();
            parts.add(part(c, depth));
        }
        return w -> parts.stream().anyMatch(t -> t.holds(w));
    }

    private static Test part(Cursor c, int depth) {
        List<Test> facts = new ArrayList<>(List.of(fact(c, depth)));
        while (c.is("and")) {
            c.take();
            facts.add(fact(c, depth));
        }
        return w -> facts.stream().allMatch(t -> t.holds(w));
    }

    private static Test fact(Cursor c, int depth) {
        if (c.is("[") || c.is("not")) {
            if (depth == 10) {
                throw new Fault(c.look().place, 2);
            }
            if (c.take().text.equals("not")) {
                Test inner = fact(c, depth + 1);
                return w -> !inner.holds(w);
            }
            Test inner = test(c, depth + 1);
            if (!c.is("]")) {
                throw c.wrong();
            }
            c.take();
            return inner;
        }
        ToLongFunction<Words> left = sum(c);
        Sign sign = c.look();
        if (sign.kind != 's' || !Set.of("<", "<=", "=", ">=", ">").contains(sign.text)) {
            throw c.wrong();
        }
        c.piece(sign.place);
        c.take();
        ToLongFunction<Words> right = sum(c);
        return w -> {
            int order = Long.compare(left.applyAsLong(w), right.applyAsLong(w));
            return switch (sign.text) {
                case "<" -> order < 0;
                case "<=" -> order <= 0;
                case "=" -> order == 0;
                case ">=" -> order >= 0;
                default -> order > 0;
            };
        };
    }

    private static ToLongFunction<Words> sum(Cursor c) {
        ToLongFunction<Words> so = term(c);
        while (c.is("+") || c.is("-")) {
            boolean plus = c.take().text.equals("+");
            ToLongFunction<Words> left = so;
            ToLongFunction<Words> right = term(c);
            so = w -> plus ? left.applyAsLong(w) + right.applyAsLong(w)
                    : left.applyAsLong(w) - right.applyAsLong(w);
        }
        return so;
    }

    private static ToLongFunction<Words> term(Cursor c) {
        ToLongFunction<Words> so = value(c);
        while (c.is("*") || c.is("/")) {
            boolean times = c.take().text.equals("*");
            ToLongFunction<Words> left = so;
            ToLongFunction<Words> right = value(c);
            so = w -> {
                long l = left.applyAsLong(w);
                long r = right.applyAsLong(w);
                return times ? l * r : r == 0 ? 0 : l / r;
            };
        }
        return so;
    }

    private static final Set<String> WORDS = Set.of("hour", "from", "to", "believes", "knows",
            "mouths", "shortest", "rows", "sees");

    private static ToLongFunction<Words> value(Cursor c) {
        Sign s = c.look();
        if (s.kind == 'n') {
            long n = c.number();
            c.piece(s.place);
            return w -> n;
        }
        if (s.kind != 'w' || !WORDS.contains(s.text)) {
            throw c.wrong();
        }
        c.piece(s.place);
        c.take();
        return w -> w.of.get(s.text);
    }

    // ---- how it spreads

    static final class Course {
        /** Of each one: his ROWS, each with the HOUR from which he has it. */
        final List<TreeMap<Integer, Integer>> rows = new ArrayList<>();
        final List<Integer> believes = new ArrayList<>();
        final Set<Integer> tells = new HashSet<>();
        final Place p;
        final Set<Integer> first;

        Course(Place p, List<Talk> talks, List<Clause> law, Set<Integer> first, Set<Integer> silent,
                Set<Integer> left) {
            this.p = p;
            this.first = first;
            List<Map<Integer, Integer>> heard = new ArrayList<>();
            for (int i = 0; i < 10; i++) {
                rows.add(new TreeMap<>());
                heard.add(new HashMap<>());
                believes.add(first.contains(i) ? 0 : -2);
            }
            Set<Integer> hours = new TreeSet<>();
            talks.forEach(t -> hours.add(t.hour));
            for (int hour : hours) {
                for (int t = 0; t < talks.size(); t++) {
                    if (talks.get(t).hour == hour && !left.contains(t)) {
                        hold(t, talks.get(t), law, silent, heard);
                    }
                }
                for (int i = 0; i < 10; i++) {
                    if (believes.get(i) == -2 && part(i, hour) != null) {
                        believes.set(i, hour);
                    }
                }
            }
        }

        private void hold(int t, Talk talk, List<Clause> law, Set<Integer> silent,
                List<Map<Integer, Integer>> heard) {
            int who = talk.who;
            int ahead = talk.hour - 1;
            List<Integer> his = rowsAt(who, ahead);
            if (silent.contains(who) || !first.contains(who) && his.isEmpty()) {
                return;
            }
            Map<String, Long> w = new HashMap<>();
            w.put("hour", (long) talk.hour);
            w.put("from", (long) who);
            w.put("to", (long) talk.to);
            w.put("believes", believesBy(who, ahead) ? 1L : 0L);
            w.put("knows", believesBy(talk.to, ahead) ? 1L : 0L);
            w.put("mouths", heard.get(who).values().stream().filter(h -> h <= ahead).count());
            w.put("shortest", his.stream().mapToLong(Integer::bitCount).min().orElse(0));
            w.put("rows", (long) his.size());
            w.put("sees", first.contains(who) ? 1L : 0L);
            Words words = new Words(w);
            if (law.stream().anyMatch(c -> c.hush && c.test.holds(words))) {
                return;
            }
            if (law.stream().anyMatch(c -> !c.hush)
                    && law.stream().noneMatch(c -> !c.hush && c.test.holds(words))) {
                return;
            }
            tells.add(t);
            if (!p.hears(talk.to, who, talk.hour)) {
                return;
            }
            heard.get(talk.to).merge(who, talk.hour, Math::min);
            if (first.contains(talk.to)) {
                return;
            }
            if (first.contains(who)) {
                rows.get(talk.to).merge(1 << who, talk.hour, Math::min);
            }
            for (int row : his) {
                if ((row & 1 << talk.to) == 0) {
                    rows.get(talk.to).merge(row | 1 << who, talk.hour, Math::min);
                }
            }
        }

        boolean believesBy(int person, int hour) {
            return believes.get(person) != -2 && believes.get(person) <= hour;
        }

        int believers(int hour) {
            int n = 0;
            for (int i = 0; i < 10; i++) {
                n += believesBy(i, hour) ? 1 : 0;
            }
            return n;
        }

        List<Integer> rowsAt(int person, int hour) {
            List<Integer> at = new ArrayList<>();
            rows.get(person).forEach((row, from) -> {
                if (from <= hour) {
                    at.add(row);
                }
            });
            return at;
        }

        List<Integer> part(int person, int hour) {
            return parting(rowsAt(person, hour), 0, p.needOf(person), 0);
        }

        private static List<Integer> parting(List<Integer> rows, int from, int need, int used) {
            if (need == 0) {
                return List.of();
            }
            for (int i = from; i < rows.size(); i++) {
                if ((rows.get(i) & used) == 0) {
                    List<Integer> rest = parting(rows, i + 1, need - 1, used | rows.get(i));
                    if (rest != null) {
                        List<Integer> all = new ArrayList<>(List.of(rows.get(i)));
                        all.addAll(rest);
                        return all;
                    }
                }
            }
            return null;
        }

        int has(int person) {
            if (first.contains(person)) {
                return 0;
            }
            return rows.get(person).values().stream().min(Integer::compare).orElse(-2);
        }
    }

    // ---- the face

    private final List<Integer> tape = new ArrayList<>();
    private Place p = new Place();
    private final List<List<Clause>> laws = new ArrayList<>();
    private final Place[] images = new Place[4];

    private static Set<Integer> set(int bits) {
        Set<Integer> set = new TreeSet<>();
        for (int i = 0; i < 32; i++) {
            if ((bits >> i & 1) == 1) {
                set.add(i);
            }
        }
        return set;
    }

    private static int bits(Set<Integer> set) {
        return set.stream().mapToInt(i -> 1 << i).sum();
    }

    private static boolean in(int n, int least, int most) {
        return n >= least && n <= most;
    }

    private boolean noLaw(int law) {
        return !in(law, 0, laws.size() - 1);
    }

    private Course course(int law) {
        return course(law, p.talks, p.first, p.silent);
    }

    private Course course(int law, List<Talk> talks, Set<Integer> first, Set<Integer> silent) {
        return new Course(p, talks, laws.get(law), first, silent, Set.of());
    }

    int feed(int a, int b, int c, int d, int e) {
        if (tape.size() > 380) {
            return -1;
        }
        for (int n : new int[] {a, b, c, d, e}) {
            for (byte one : java.nio.ByteBuffer.allocate(4).putInt(n).array()) {
                tape.add(one & 255);
            }
        }
        return tape.size();
    }

    int end(int n) {
        if (!in(n, 0, tape.size())) {
            return -1;
        }
        tape.subList(n, tape.size()).clear();
        return n;
    }

    int town() {
        try {
            Place read = readTown(tape);
            read.first = p.first;
            read.silent = p.silent;
            read.book = p.book;
            read.x = p.x;
            p = read;
        } catch (Fault f) {
            return -2 - f.number;
        }
        tape.clear();
        return p.talks.size();
    }

    int law() {
        if (laws.size() == 6) {
            return -1;
        }
        List<Integer> text = List.copyOf(tape);
        tape.clear();
        try {
            laws.add(readLaw(text));
        } catch (Fault f) {
            return -2 - f.number;
        }
        return laws.size() - 1;
    }

    private static boolean isTalk(int who, int to, int hour) {
        return in(who, 0, 9) && in(to, 0, 9) && who != to && in(hour, 1, 99);
    }

    int talk(int who, int to, int hour) {
        if (p.talks.size() == 30 || !isTalk(who, to, hour)) {
            return -1;
        }
        p.talks.add(new Talk(who, to, hour));
        return p.talks.size() - 1;
    }

    int talks(int talk, int what) {
        if (!in(talk, 0, p.talks.size() - 1) || !in(what, 0, 2)) {
            return -1;
        }
        Talk t = p.talks.get(talk);
        return List.of(t.who, t.to, t.hour).get(what);
    }

    int person(int person, int what) {
        if (!in(person, 0, 9)) {
            return -1;
        }
        if (in(what, 100, 199)) {
            return p.deafAt(person, what - 100) ? 1 : 0;
        }
        if (in(what, 200, 209)) {
            return p.proud.contains(new Proud(person, what - 200)) ? 1 : 0;
        }
        return switch (what) {
            case 0 -> p.needOf(person);
            case 1 -> p.first.contains(person) ? 1 : 0;
            case 2 -> p.silent.contains(person) ? 1 : 0;
            default -> -1;
        };
    }

    int first(int set) {
        if (!in(set, 0, 1023)) {
            return -1;
        }
        int was = bits(p.first);
        p.first = set(set);
        return was;
    }

    int silent(int set) {
        if (!in(set, 0, 1023)) {
            return -1;
        }
        int was = bits(p.silent);
        p.silent = set(set);
        return was;
    }

    int believes(int law, int person) {
        return noLaw(law) || !in(person, 0, 9) ? -1 : course(law).believes.get(person);
    }

    int has(int law, int person) {
        return noLaw(law) || !in(person, 0, 9) ? -1 : course(law).has(person);
    }

    private boolean noKnown(int law, int person, int hour) {
        return noLaw(law) || !in(person, 0, 9) || !in(hour, 0, 99);
    }

    int known(int law, int person, int hour, int what) {
        if (noKnown(law, person, hour) || !in(what, 0, 5)) {
            return -1;
        }
        Course c = course(law);
        List<Integer> rows = c.rowsAt(person, hour);
        if (what == 0) {
            return rows.size();
        }
        if (what == 1) {
            return rows.stream().mapToInt(Integer::bitCount).min().orElse(0);
        }
        if (what == 2) {
            for (int i = 0; i < 10; i++) {
                int mouth = i;
                if (!rows.isEmpty() && rows.stream().allMatch(r -> (r >> mouth & 1) == 1)) {
                    return i;
                }
            }
            return -2;
        }
        List<Integer> part = c.part(person, hour);
        return part == null || part.size() <= what - 3 ? -2 : part.get(what - 3);
    }

    int row(int law, int person, int hour, int row) {
        if (noKnown(law, person, hour) || !in(row, 0, 1023)) {
            return -1;
        }
        return course(law).rowsAt(person, hour).contains(row) ? 1 : 0;
    }

    int tells(int law, int talk) {
        if (noLaw(law) || !in(talk, 0, p.talks.size() - 1)) {
            return -1;
        }
        return course(law).tells.contains(talk) ? 1 : 0;
    }

    int spread(int law, int hour, int what) {
        if (noLaw(law) || !in(hour, 0, 99) || !in(what, 0, 1)) {
            return -1;
        }
        Course c = course(law);
        if (what == 0) {
            return c.believers(hour);
        }
        int n = 0;
        for (int i = 0; i < 10; i++) {
            n += p.first.contains(i) || !c.rowsAt(i, hour).isEmpty() ? 1 : 0;
        }
        return n;
    }

    int last(int law) {
        if (noLaw(law)) {
            return -1;
        }
        Course c = course(law);
        int hour = 0;
        while (c.believers(hour) != c.believers(99)) {
            hour++;
        }
        return hour;
    }

    int fewest(int law, int choose, int told, int hour) {
        if (noLaw(law) || !in(choose, 1, 1023) || Integer.bitCount(choose) > 8 || !in(told, 0, 1023)
                || !in(hour, 0, 99)) {
            return -1;
        }
        int best = -2;
        for (int s = 0; s < 1024; s++) {
            if ((s & ~choose) != 0 || best >= 0 && Integer.bitCount(s) >= Integer.bitCount(best)) {
                continue;
            }
            Course c = course(law, p.talks, set(s), p.silent);
            if (set(told).stream().allMatch(i -> c.believesBy(i, hour))) {
                best = s;
            }
        }
        return best;
    }

    int silence(int law, int person) {
        if (noLaw(law) || !in(person, 0, 9) || p.first.contains(person)) {
            return -1;
        }
        int best = -2;
        for (int s = 0; s < 1024; s++) {
            int size = Integer.bitCount(s);
            if (size > 3 || (s & bits(p.first)) != 0 || best >= 0 && size >= Integer.bitCount(best)) {
                continue;
            }
            Set<Integer> silent = new TreeSet<>(p.silent);
            silent.addAll(set(s));
            if (course(law, p.talks, p.first, silent).believes.get(person) == -2) {
                best = s;
            }
        }
        return best;
    }

    int crier(int law, int hour, int what) {
        if (noLaw(law) || !in(hour, 0, 99) || !in(what, 0, 1)) {
            return -1;
        }
        List<Integer> many = new ArrayList<>();
        for (int i = 0; i < 10; i++) {
            many.add(course(law, p.talks, Set.of(i), p.silent).believers(hour));
        }
        int most = Collections.max(many);
        return what == 0 ? many.indexOf(most) : most;
    }

    int letter(int law, int person, int hour) {
        if (noLaw(law) || !in(person, 0, 9) || !in(hour, 1, 99)) {
            return -1;
        }
        if (course(law).believes.get(person) != -2) {
            return 0;
        }
        for (int who = 0; who < 10; who++) {
            for (int to = 0; to < 10; to++) {
                List<Talk> more = new ArrayList<>(p.talks);
                more.add(new Talk(who, to, hour));
                if (who != to && course(law, more, p.first, p.silent).believes.get(person) != -2) {
                    return 16 * who + to;
                }
            }
        }
        return -2;
    }

    int entry(int who, int to, int hour) {
        if (who == -1) {
            p.book.clear();
            return 0;
        }
        if (!isTalk(who, to, hour) || p.book.size() == 20) {
            return -2;
        }
        p.book.add(new Talk(who, to, hour));
        return p.book.size();
    }

    private boolean canBe(int i) {
        Talk e = p.book.get(i);
        return p.talks.contains(e) && p.hears(e.to, e.who, e.hour) && !p.silent.contains(e.who)
                && p.book.indexOf(e) == i;
    }

    private List<Talk> possible() {
        List<Talk> all = new ArrayList<>();
        for (int i = 0; i < p.book.size(); i++) {
            if (canBe(i)) {
                all.add(p.book.get(i));
            }
        }
        return all;
    }

    private Set<Integer> seers() {
        Set<Integer> seers = new TreeSet<>();
        List<Talk> all = possible();
        for (Talk e : all) {
            if (all.stream().noneMatch(o -> o.to == e.who && o.hour < e.hour)) {
                seers.add(e.who);
            }
        }
        return seers;
    }

    int book(int what) {
        if (what == 0) {
            for (int i = 0; i < p.book.size(); i++) {
                if (!canBe(i)) {
                    return i;
                }
            }
            return -2;
        }
        return what == 1 ? bits(seers()) : -1;
    }

    int rowAt(int law, int person, int hour, int k) {
        if (noKnown(law, person, hour) || k < 0) {
            return -1;
        }
        List<Integer> rows = course(law).rowsAt(person, hour);
        return k < rows.size() ? rows.get(k) : -2;
    }

    int mouths(int law, int person, int hour, int what) {
        if (noKnown(law, person, hour) || !in(what, 0, 1)) {
            return -1;
        }
        List<Integer> rows = course(law).rowsAt(person, hour);
        return rows.stream().reduce(what == 0 ? (a, b) -> a | b : (a, b) -> a & b).orElse(0);
    }

    int turn(int law, int k) {
        if (noLaw(law) || k < 0) {
            return -1;
        }
        Course c = course(law);
        List<Integer> order = new ArrayList<>();
        for (int i = 0; i < 10; i++) {
            if (c.believes.get(i) != -2) {
                order.add(c.believes.get(i) * 10 + i);
            }
        }
        Collections.sort(order);
        return k < order.size() ? order.get(k) % 10 : -2;
    }

    int byBook(int law, int person) {
        if (noLaw(law) || !in(person, 0, 9)) {
            return -1;
        }
        return course(law, possible(), seers(), p.silent).believes.get(person);
    }

    int lies(int law) {
        if (noLaw(law)) {
            return -1;
        }
        Course c = course(law);
        Set<Integer> lies = new TreeSet<>();
        for (int i = 0; i < p.book.size(); i++) {
            Talk e = p.book.get(i);
            if (canBe(i) && !p.first.contains(e.who) && c.rowsAt(e.who, e.hour - 1).isEmpty()) {
                lies.add(i);
            }
        }
        return bits(lies);
    }

    int doubts(int law, int hour) {
        if (noLaw(law) || !in(hour, 0, 99)) {
            return -1;
        }
        Course c = course(law);
        Set<Integer> doubting = new TreeSet<>();
        for (int i = 0; i < 10; i++) {
            if (c.rowsAt(i, hour).size() >= p.needOf(i) && !c.believesBy(i, hour)) {
                doubting.add(i);
            }
        }
        return bits(doubting);
    }

    private static int most(List<Integer> rows, int from, int used) {
        int best = 0;
        for (int i = from; i < rows.size(); i++) {
            if ((rows.get(i) & used) == 0) {
                best = Math.max(best, 1 + most(rows, i + 1, used | rows.get(i)));
            }
        }
        return best;
    }

    int apart(int law, int person, int hour) {
        return noKnown(law, person, hour) ? -1 : most(course(law).rowsAt(person, hour), 0, 0);
    }

    int weight(int law, int person, int hour) {
        if (noKnown(law, person, hour)) {
            return -1;
        }
        Set<Integer> silent = new TreeSet<>(p.silent);
        silent.add(person);
        return course(law).believers(hour) - course(law, p.talks, p.first, silent).believers(hour);
    }

    int reach(int person, int hour) {
        if (!in(person, 0, 9) || !in(hour, 0, 99)) {
            return -1;
        }
        Set<Integer> there = new TreeSet<>(Set.of(person));
        lead(person, hour, there);
        return bits(there);
    }

    private void lead(int person, int least, Set<Integer> there) {
        for (Talk t : p.talks) {
            if (t.who == person && t.hour >= least && p.hears(t.to, t.who, t.hour)) {
                there.add(t.to);
                lead(t.to, t.hour + 1, there);
            }
        }
    }

    int way(int law, int person, int row, int k) {
        if (noLaw(law) || !in(person, 0, 9) || !in(row, 0, 1023) || k < 0) {
            return -1;
        }
        Course c = course(law);
        Integer from = c.rows.get(person).get(row);
        if (from == null) {
            return -2;
        }
        List<List<Integer>> ways = new ArrayList<>();
        ways(c, person, row, from, new ArrayList<>(), ways);
        ways.sort((a, b) -> {
            for (int i = 0; i < a.size(); i++) {
                if (!a.get(i).equals(b.get(i))) {
                    return a.get(i) - b.get(i);
                }
            }
            return 0;
        });
        return k < ways.get(0).size() ? ways.get(0).get(k) : -2;
    }

    /** Goes from the last TALK back to the first, and gathers all WAYS. */
    private void ways(Course c, int to, int rest, int latest, List<Integer> behind,
            List<List<Integer>> all) {
        for (int t = 0; t < p.talks.size(); t++) {
            Talk talk = p.talks.get(t);
            boolean fits = behind.isEmpty() ? talk.hour == latest : talk.hour < latest;
            if (talk.to != to || !fits || !c.tells.contains(t) || (rest >> talk.who & 1) == 0
                    || !p.hears(to, talk.who, talk.hour)) {
                continue;
            }
            List<Integer> longer = new ArrayList<>(List.of(t));
            longer.addAll(behind);
            int left = rest & ~(1 << talk.who);
            if (left != 0) {
                ways(c, talk.who, left, talk.hour, longer, all);
            } else if (p.first.contains(talk.who)) {
                all.add(longer);
            }
        }
    }

    int moved(int law, int talk, int person, int what) {
        if (noLaw(law) || !in(talk, 0, p.talks.size() - 1) || !in(person, 0, 9) || !in(what, 0, 1)) {
            return -1;
        }
        int best = Integer.MAX_VALUE;
        int at = -2;
        for (int hour = 99; hour >= 1; hour--) {
            List<Talk> other = new ArrayList<>(p.talks);
            other.set(talk, new Talk(other.get(talk).who, other.get(talk).to, hour));
            int from = course(law, other, p.first, p.silent).believes.get(person);
            if (from >= 0 && from <= best) {
                best = from;
                at = hour;
            }
        }
        return at == -2 ? -2 : what == 0 ? at : best;
    }

    int two(int law, int other, int hour, int what) {
        if (noLaw(law) || !in(other, 0, 1023) || !in(hour, 0, 99) || !in(what, 0, 2)) {
            return -1;
        }
        Course one = course(law);
        Course two = course(law, p.talks, set(other), p.silent);
        Set<Integer> found = new TreeSet<>();
        for (int i = 0; i < 10; i++) {
            int a = one.believesBy(i, hour) ? one.believes.get(i) : 100;
            int b = two.believesBy(i, hour) ? two.believes.get(i) : 100;
            boolean is = what == 0 ? a < b : what == 1 ? b < a : a == b && a < 100;
            if (is) {
                found.add(i);
            }
        }
        return bits(found);
    }

    int seed(int x) {
        if (x < 0) {
            return -1;
        }
        int was = p.x;
        p.x = x;
        return was;
    }

    int tried(int law, int m, int bound, int person, int hour, int what) {
        if (noKnown(law, person, hour) || !in(m, 1, 20) || !in(bound, 0, 8) || !in(what, 0, 1)) {
            return -1;
        }
        java.math.BigInteger x = java.math.BigInteger.valueOf(p.x);
        int sum = 0;
        for (int i = 0; i < m; i++) {
            Set<Integer> left = new HashSet<>();
            for (int t = 0; t < p.talks.size(); t++) {
                x = x.multiply(java.math.BigInteger.valueOf(1103515245))
                        .add(java.math.BigInteger.valueOf(12345))
                        .mod(java.math.BigInteger.valueOf(2147483648L));
                if (x.intValue() / 65536 % 8 < bound) {
                    left.add(t);
                }
            }
            Course c = new Course(p, p.talks, laws.get(law), p.first, p.silent, left);
            sum += what == 1 ? c.believers(hour) : c.believesBy(person, hour) ? 1 : 0;
        }
        return sum;
    }

    int count(int what) {
        return switch (what) {
            case 0 -> p.talks.size();
            case 1 -> laws.size();
            case 2 -> p.deaf.size();
            case 3 -> p.book.size();
            case 4 -> bits(p.first);
            case 5 -> bits(p.silent);
            case 6 -> p.x;
            case 7 -> tape.size();
            case 8 -> p.proud.size();
            default -> -1;
        };
    }

    int image(int k) {
        if (!in(k, 0, 3)) {
            return -1;
        }
        images[k] = p.copy();
        return p.talks.size();
    }

    int back(int k) {
        if (!in(k, 0, 3) || images[k] == null) {
            return -1;
        }
        p = images[k].copy();
        return p.talks.size();
    }
}
