import java.io.IOException;
import java.lang.reflect.Constructor;
import java.lang.reflect.Field;
import java.lang.reflect.Method;
import java.lang.reflect.Modifier;
import java.nio.file.Files;
import java.nio.file.Path;
import java.util.Set;
import java.util.StringJoiner;
import java.util.TreeSet;
import java.util.regex.Matcher;
import java.util.regex.Pattern;

/** The public face; promises 6 to 10, 22, 23, 32, 36, 38 to 40: what is told, kept, asked back and gone back to. */
public final class FaceTest {
    private static final Path DOC = Path.of("..", "shared", "DOC.md");

    public static void main(String[] args) throws IOException {
        publicFace();
        talk();
        talks();
        person();
        sets();
        entry();
        book();
        reach();
        seed();
        count();
        images();
        Check.finish();
    }

    /** The face is the one of the document, line by line, with nothing beside it. */
    private static void publicFace() throws IOException {
        if (!Files.exists(DOC)) {
            System.out.println(DOC + " is not there: the face is not compared with it");
            return;
        }
        Check c = new Check("the public face");
        Set<String> told = new TreeSet<>();
        String doc = Files.readString(DOC);
        String block = doc.substring(doc.indexOf("public final class TwoMouths {") + 30, doc.indexOf("## Terms"));
        for (Matcher m = Pattern.compile("public ([^;]+);").matcher(block); m.find();) {
            told.add(m.group(1).replaceAll("(int) \\w+(?=[,)])", "$1"));
        }
        Set<String> found = foundFace();
        for (String line : told) {
            c.due(line + " is there", found.contains(line) ? 1 : 0, 1);
        }
        c.due("lines of the face", found.size(), told.size());
        c.due("calls, the constant and the constructor", told.size(), 41);
    }

    private static Set<String> foundFace() {
        Set<String> found = new TreeSet<>();
        for (Method m : TwoMouths.class.getDeclaredMethods()) {
            if (Modifier.isPublic(m.getModifiers())) {
                found.add(m.getReturnType() + " " + m.getName() + listed(m.getParameterTypes()));
            }
        }
        for (Constructor<?> made : TwoMouths.class.getConstructors()) {
            found.add("TwoMouths" + listed(made.getParameterTypes()));
        }
        for (Field f : TwoMouths.class.getFields()) {
            boolean constant = Modifier.isStatic(f.getModifiers()) && Modifier.isFinal(f.getModifiers());
            found.add((constant ? "static final " : "") + f.getType() + " " + f.getName() + " = " + TwoMouths.NONE);
        }
        return found;
    }

    private static String listed(Class<?>[] types) {
        StringJoiner list = new StringJoiner(", ", "(", ")");
        for (Class<?> type : types) {
            list.add(type.getName());
        }
        return list.toString();
    }

    private static void talk() {
        Check c = new Check("promise 6");
        int[][] wrong = {{0, 0, 1}, {-1, 0, 1}, {10, 0, 1}, {0, -1, 1}, {0, 10, 1}, {0, 1, 0}, {0, 1, 100},
            {0, 1, -5}, {Integer.MAX_VALUE, 1, 1}, {0, Integer.MIN_VALUE, 1}, {0, 1, Integer.MAX_VALUE}};
        for (int[] w : wrong) {
            c.due("talk", c.x.talk(w[0], w[1], w[2]), -1);
        }
        c.due("none came", c.x.count(0), 0);
        c.town("talk 0 1 5", 1);
        for (int i = 1; i < 30; i++) {
            c.due("talk " + i, c.x.talk(9, i % 9, 1 + i), i);
        }
        c.due("talk 30", c.x.talk(0, 1, 1), -1);
        c.due("talks", c.x.count(0), 30);
        c.due("the last one", c.x.talks(29, 2), 30);
        c.due("alike ones", new TwoMouths().talk(0, 1, 99), 0);
    }

    private static void talks() {
        Check c = new Check("promise 7");
        c.town("talk 3 4 50;need 1 1;talk 7 6 2", 2);
        c.due("who", c.x.talks(0, 0), 3).due("to", c.x.talks(0, 1), 4).due("hour", c.x.talks(0, 2), 50);
        c.due("who", c.x.talks(1, 0), 7).due("to", c.x.talks(1, 1), 6).due("hour", c.x.talks(1, 2), 2);
        c.due("no talk", c.x.talks(2, 0), -1).due("no talk", c.x.talks(-1, 0), -1);
        c.due("no what", c.x.talks(0, 3), -1).due("no what", c.x.talks(0, -1), -1);
        c.due("no talk", c.x.talks(Integer.MAX_VALUE, 0), -1);
    }

    private static void person() {
        Check c = new Check("promise 8");
        c.town("need 9 1;deaf 9 99 99;deaf 0 0 0;proud 0 9;proud 9 0", 0);
        c.x.first(513);
        c.x.silent(2);
        c.due("need", c.x.person(9, 0), 1).due("first", c.x.person(9, 1), 1).due("first", c.x.person(0, 1), 1);
        c.due("first", c.x.person(1, 1), 0).due("silent", c.x.person(1, 2), 1).due("silent", c.x.person(9, 2), 0);
        c.due("deaf", c.x.person(9, 199), 1).due("deaf", c.x.person(9, 198), 0).due("deaf", c.x.person(0, 100), 1);
        c.due("deaf", c.x.person(0, 101), 0);
        c.due("proud", c.x.person(0, 209), 1).due("proud", c.x.person(9, 200), 1).due("proud", c.x.person(0, 200), 0);
        int[] none = {-1, 3, 99, 210, 1000, Integer.MIN_VALUE, Integer.MAX_VALUE};
        for (int what : none) {
            c.due("what " + what, c.x.person(0, what), -1);
        }
        c.due("nobody", c.x.person(10, 0), -1).due("nobody", c.x.person(-1, 0), -1);
        c.due("nobody", c.x.person(10, 100), -1).due("nobody", c.x.person(-1, 200), -1);
    }

    private static void sets() {
        Check c = new Check("promises 9 and 10");
        c.due("first", c.x.first(1023), 0).due("first", c.x.first(4), 1023).due("first", c.x.first(1024), -1);
        c.due("first", c.x.first(-1), -1).due("first", c.x.first(0), 4);
        c.due("silent", c.x.silent(1023), 0).due("silent", c.x.silent(4), 1023);
        c.due("silent", c.x.silent(1024), -1).due("silent", c.x.silent(-1), -1).due("silent", c.x.silent(0), 4);
        c.due("first", c.x.count(4), 0);
    }

    private static void entry() {
        Check c = new Check("promise 22");
        int[][] wrong = {{0, 0, 1}, {-2, 0, 1}, {10, 0, 1}, {0, -1, 1}, {0, 10, 1}, {0, 1, 0}, {0, 1, 100}};
        for (int[] w : wrong) {
            c.due("entry", c.x.entry(w[0], w[1], w[2]), -2);
        }
        for (int i = 1; i <= 20; i++) {
            c.due("entry " + i, c.x.entry(0, 1, i), i);
        }
        c.due("one too many", c.x.entry(0, 1, 50), -2);
        c.due("entries", c.x.count(3), 20);
        c.due("none", c.x.entry(-1, 77, -77), 0);
        c.due("entries", c.x.count(3), 0);
        c.due("none", c.x.entry(-1, 0, 1), 0);
        c.due("entry", c.x.entry(9, 8, 99), 1);
    }

    private static void book() {
        Check c = new Check("promise 23");
        c.due("empty", c.x.book(0), -2).due("empty", c.x.book(1), 0);
        c.town("talk 0 1 1;talk 1 2 2;talk 2 3 2;talk 3 4 5;talk 4 3 4;talk 1 5 6;talk 6 5 9;deaf 4 5 5;proud 5 6", 7);
        c.x.entry(0, 1, 1);
        c.x.entry(1, 2, 2);
        c.due("all can", c.x.book(0), -2).due("0 alone", c.x.book(1), 1);
        // 2 told it at the very hour at which he was told it: not ahead of that.
        c.x.entry(2, 3, 2);
        c.due("all can", c.x.book(0), -2).due("0 and 2", c.x.book(1), 5);
        c.x.entry(3, 4, 5);
        c.due("deaf", c.x.book(0), 3).due("3 did not tell", c.x.book(1), 5);
        c.x.entry(4, 3, 4);
        c.due("4, too", c.x.book(1), 21);
        c.x.entry(6, 5, 9);
        c.due("proud", c.x.book(1), 21);
        c.x.silent(1);
        c.due("silent", c.x.book(0), 0).due("1 in place of 0", c.x.book(1), 22);
        c.x.silent(0);
        c.x.entry(-1, 0, 0);
        c.x.entry(0, 1, 1);
        c.x.entry(1, 5, 6);
        c.x.entry(0, 1, 1);
        c.x.entry(0, 1, 2);
        c.due("the second of alike ones", c.x.book(0), 2).due("seers", c.x.book(1), 1);
        c.x.entry(-1, 0, 0);
        c.x.entry(0, 1, 2);
        c.due("no such hour", c.x.book(0), 0).due("nobody", c.x.book(1), 0);
        c.x.talk(0, 1, 2);
        c.due("such a talk now", c.x.book(0), -2);
        c.x.entry(6, 5, 9);
        c.due("proud", c.x.book(0), 1);
        c.due("what", c.x.book(2), -1).due("what", c.x.book(-1), -1);
    }

    private static void reach() {
        Check c = new Check("promise 32");
        c.town("talk 1 2 5;talk 0 1 3;talk 2 3 5;talk 2 4 6;talk 4 5 99;talk 4 6 98;talk 5 7 99;deaf 6 98 98;"
                + "talk 0 8 2;proud 8 0", 8);
        c.due("from 0", c.x.reach(0, 0), 1 + 2 + 4 + 16 + 32);
        c.due("from 3", c.x.reach(0, 3), 1 + 2 + 4 + 16 + 32);
        c.due("from 4", c.x.reach(0, 4), 1);
        c.due("2 from 5", c.x.reach(2, 5), 4 + 8 + 16 + 32);
        c.due("2 from 6", c.x.reach(2, 6), 4 + 16 + 32);
        c.due("5 at 99", c.x.reach(5, 99), 32 + 128);
        c.x.silent(1023);
        c.due("silent ones", c.x.reach(0, 0), 1 + 2 + 4 + 16 + 32);
        c.due("nobody", c.x.reach(10, 0), -1).due("nobody", c.x.reach(-1, 0), -1);
        c.due("hour", c.x.reach(0, 100), -1).due("hour", c.x.reach(0, -1), -1);
        c.due("himself", c.x.reach(9, 50), 512);
    }

    private static void seed() {
        Check c = new Check("promise 36");
        c.due("seed", c.x.seed(5), 0).due("seed", c.x.seed(-1), -1).due("seed", c.x.seed(Integer.MIN_VALUE), -1);
        c.due("seed", c.x.seed(Integer.MAX_VALUE), 5).due("seed", c.x.seed(0), Integer.MAX_VALUE);
    }

    private static void count() {
        Check c = new Check("promise 38");
        c.town("talk 0 1 1;talk 0 1 1;talk 0 1 1;deaf 0 1 1;deaf 0 1 1;proud 0 1", 3);
        c.law("tell 1=1", 0).law("tell 1=1", 1).write("abc");
        c.x.entry(0, 1, 1);
        c.x.first(9);
        c.x.silent(10);
        c.x.seed(11);
        int[] due = {3, 2, 2, 1, 9, 10, 11, 3, 1};
        for (int what = 0; what < due.length; what++) {
            c.due("count(" + what + ")", c.x.count(what), due[what]);
        }
        c.due("count", c.x.count(9), -1).due("count", c.x.count(-1), -1);
    }

    private static void images() {
        Check c = new Check("promises 39 and 40");
        c.due("no image", c.x.image(4), -1).due("no image", c.x.image(-1), -1);
        c.due("not made", c.x.back(3), -1).due("no image", c.x.back(4), -1).due("no image", c.x.back(-1), -1);
        c.town("need 0 3;talk 0 1 1;deaf 2 2 2;proud 3 4", 1);
        c.x.first(1);
        c.x.silent(2);
        c.x.seed(3);
        c.x.entry(0, 1, 1);
        c.due("image", c.x.image(3), 1);
        c.law("tell 1=1", 0);
        c.town("need 0 1;talk 5 6 7;talk 7 8 9", 2);
        c.x.talk(1, 2, 3);
        c.x.first(4);
        c.x.silent(8);
        c.x.seed(16);
        c.x.entry(-1, 0, 0);
        c.write("tape");
        c.due("image", c.x.image(0), 3);
        c.due("back", c.x.back(3), 1);
        int[] due = {1, 1, 1, 1, 1, 2, 3, 4, 1};
        for (int what = 0; what < due.length; what++) {
            c.due("count(" + what + ")", c.x.count(what), due[what]);
        }
        c.due("need", c.x.person(0, 0), 3).due("deaf", c.x.person(2, 102), 1).due("proud", c.x.person(3, 204), 1);
        c.due("talk", c.x.talks(0, 2), 1);
        c.x.talk(0, 2, 2);
        c.x.entry(0, 2, 2);
        c.due("the image stays as it was", c.x.back(3), 1);
        c.due("entries", c.x.count(3), 1);
        c.due("the other", c.x.back(0), 3);
        c.due("need", c.x.person(0, 0), 1).due("deaf", c.x.person(2, 102), 0).due("first", c.x.count(4), 4);
        c.due("made anew", c.x.image(3), 3).due("back", c.x.back(3), 3);
        c.due("not made", c.x.back(1), -1).due("nothing happens", c.x.count(0), 3);
    }
}
