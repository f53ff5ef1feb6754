/** Promises 18 to 21, 27, 28, 34, 35 and 37: what is looked for by trying. */
public final class SearchTest {
    public static void main(String[] args) {
        fewest();
        silence();
        crier();
        letter();
        byBook();
        lies();
        moved();
        two();
        tried();
        Check.finish();
    }

    private static Check town(String name, String town, int talks, int first) {
        Check c = new Check(name);
        c.town(town, talks);
        c.law("tell 1=1", 0);
        c.x.first(first);
        return c;
    }

    private static void fewest() {
        Check c = town("promise 18", "talk 0 3 1;talk 1 3 2;talk 2 3 3;talk 3 4 4;need 4 1", 4, 1023);
        c.due("two of three", c.x.fewest(0, 7, 8, 99), 3).due("by 2", c.x.fewest(0, 7, 8, 2), 3);
        c.due("by 1", c.x.fewest(0, 7, 8, 1), -2).due("others", c.x.fewest(0, 6, 8, 99), 6);
        c.due("too few", c.x.fewest(0, 4, 8, 99), -2).due("himself", c.x.fewest(0, 15, 8, 0), 8);
        c.due("4 by one row", c.x.fewest(0, 7, 16, 99), 1).due("3 and 4", c.x.fewest(0, 7, 24, 99), 3);
        c.due("3 and 4, with 3", c.x.fewest(0, 15, 24, 99), 8).due("at hour 3", c.x.fewest(0, 31, 24, 3), 24);
        c.due("nobody told", c.x.fewest(0, 7, 0, 0), 0).due("all", c.x.fewest(0, 255, 1023, 99), -2);
        c.x.silent(1);
        c.due("0 is silent", c.x.fewest(0, 7, 8, 99), 6);
        c.due("all stays", c.x.count(4), 1023);
        c.due("none to choose", c.x.fewest(0, 0, 8, 99), -1).due("nine to choose", c.x.fewest(0, 511, 8, 99), -1);
        c.due("choose", c.x.fewest(0, 1024, 8, 99), -1).due("choose", c.x.fewest(0, -1, 8, 99), -1);
        c.due("told", c.x.fewest(0, 7, 1024, 99), -1).due("told", c.x.fewest(0, 7, -1, 99), -1);
        c.due("hour", c.x.fewest(0, 7, 8, 100), -1).due("hour", c.x.fewest(0, 7, 8, -1), -1);
        c.due("law", c.x.fewest(1, 7, 8, 99), -1);
    }

    private static void silence() {
        Check c = town("promise 19", "talk 0 2 1;talk 1 3 1;talk 2 4 2;talk 3 4 2", 4, 3);
        c.due("one of two", c.x.silence(0, 4), 4).due("without any", c.x.silence(0, 5), 0);
        c.due("first", c.x.silence(0, 0), -1).due("nobody", c.x.silence(0, 10), -1);
        c.due("nobody", c.x.silence(0, -1), -1).due("law", c.x.silence(1, 4), -1);
        c.x.silent(8);
        c.due("kept already", c.x.silence(0, 4), 0).due("all stays", c.x.count(5), 8);
        c.x.silent(0);
        c.town("talk 0 4 1;talk 1 4 1", 2).due("by first ones alone", c.x.silence(0, 4), -2);
        String three = "need 4 1;talk 0 2 1;talk 0 3 1;talk 0 5 1;talk 2 4 2;talk 3 4 2;talk 5 4 99";
        c.town(three, 6).due("three", c.x.silence(0, 4), 44);
        c.town(three + ";talk 0 6 1;talk 6 4 2", 8).due("not with three", c.x.silence(0, 4), -2);
        c.town("need 4 1;talk 0 2 1;talk 0 9 1;talk 2 4 2;talk 9 4 2", 4).due("two", c.x.silence(0, 4), 516);
        c.town("need 4 1;talk 0 9 1;talk 9 3 2;talk 3 4 3", 3).due("the least", c.x.silence(0, 4), 8);
    }

    private static void crier() {
        Check c = town("promise 20", "need 1 1;need 2 1;talk 5 1 1;talk 5 2 2;talk 6 1 1;talk 7 1 1;talk 7 2 2", 5, 0);
        c.due("who", c.x.crier(0, 99, 0), 5).due("how many", c.x.crier(0, 99, 1), 3);
        c.due("who", c.x.crier(0, 1, 0), 5).due("how many", c.x.crier(0, 1, 1), 2);
        c.due("who", c.x.crier(0, 0, 0), 0).due("how many", c.x.crier(0, 0, 1), 1);
        c.x.silent(32);
        c.due("who", c.x.crier(0, 99, 0), 7).due("who", c.x.crier(0, 1, 0), 6);
        c.due("what", c.x.crier(0, 1, 2), -1).due("what", c.x.crier(0, 1, -1), -1);
        c.due("hour", c.x.crier(0, 100, 0), -1).due("hour", c.x.crier(0, -1, 0), -1);
        c.due("law", c.x.crier(1, 1, 0), -1).due("all stays", c.x.count(4), 0);
    }

    private static void letter() {
        Check c = town("promise 21", "talk 0 1 1;talk 1 2 3", 2, 1);
        c.due("all rows go through 0", c.x.letter(0, 2, 4), -2).due("first", c.x.letter(0, 0, 4), 0);
        c.x.first(33);
        c.due("5 to 2", c.x.letter(0, 2, 4), 82).due("5 to 2", c.x.letter(0, 2, 2), 82);
        c.town("need 2 1;talk 1 2 5", 1);
        c.x.first(1);
        c.due("0 to 1", c.x.letter(0, 2, 3), 1).due("0 to 2", c.x.letter(0, 2, 5), 2);
        c.due("0 to 2", c.x.letter(0, 2, 99), 2);
        c.x.silent(1);
        c.due("0 is silent", c.x.letter(0, 2, 3), -2);
        c.x.silent(0);
        c.x.talk(0, 2, 99);
        c.due("without", c.x.letter(0, 2, 3), 0).due("talks", c.x.count(0), 2);
        c.due("hour", c.x.letter(0, 2, 0), -1).due("hour", c.x.letter(0, 2, 100), -1);
        c.due("law", c.x.letter(1, 2, 3), -1).due("nobody", c.x.letter(0, 10, 3), -1);
        c.town("need 2 1;talk 1 2 5;need 4 1", 1);
        for (int i = 1; i < 30; i++) {
            c.x.talk(7, 8, i);
        }
        c.due("one more than there may be", c.x.letter(0, 2, 3), 1).due("talks", c.x.count(0), 30);
        c.law("hush hour=3", 1).due("hushed", c.x.letter(1, 2, 3), -2).due("not hushed", c.x.letter(1, 2, 4), 1);
    }

    private static void enter(Check c, int[]... entries) {
        c.x.entry(-1, 0, 0);
        for (int[] e : entries) {
            c.x.entry(e[0], e[1], e[2]);
        }
    }

    private static void byBook() {
        Check c = town("promise 27", "need 1 1;talk 0 1 1;talk 1 2 2;talk 3 2 2;talk 4 2 2;talk 4 5 3", 5, 0);
        enter(c, new int[] {0, 1, 1}, new int[] {1, 2, 2}, new int[] {3, 2, 2}, new int[] {3, 2, 5});
        int[] due = {0, 1, 2, 0, -2, -2};
        for (int p = 0; p < due.length; p++) {
            c.due("byBook " + p, c.x.byBook(0, p), due[p]);
        }
        c.due("first ones stay", c.x.count(4), 0);
        c.law("hush from=3", 1).due("by another law", c.x.byBook(1, 2), -2).due("seers", c.x.byBook(1, 3), 0);
        c.x.silent(8);
        c.due("3 is silent", c.x.byBook(0, 2), -2).due("3 is silent", c.x.byBook(0, 3), -2);
        c.x.first(16);
        c.due("first ones don't matter", c.x.byBook(0, 4), -2);
        c.due("law", c.x.byBook(2, 0), -1).due("nobody", c.x.byBook(0, 10), -1).due("nobody", c.x.byBook(0, -1), -1);
    }

    private static void lies() {
        Check c = town("promise 28", "need 1 1;talk 0 1 1;talk 1 2 2;talk 3 2 2;talk 1 4 1", 4, 0);
        enter(c, new int[] {0, 1, 1}, new int[] {1, 2, 2}, new int[] {3, 2, 2}, new int[] {1, 4, 1},
                new int[] {3, 2, 9}, new int[] {3, 2, 2});
        c.due("all", c.x.lies(0), 15);
        c.x.first(1);
        c.due("3, and 1 at hour 1", c.x.lies(0), 12);
        c.law("hush from=0", 1).due("0 tells nobody", c.x.lies(1), 14);
        c.x.silent(2);
        c.due("1 is silent, so he can't have told", c.x.lies(0), 4);
        c.due("law", c.x.lies(2), -1).due("law", c.x.lies(-1), -1);
        enter(c);
        c.due("none", c.x.lies(0), 0);
    }

    private static void moved() {
        Check c = town("promise 34", "need 2 1;need 1 1;talk 0 1 50;talk 1 2 10", 2, 1);
        c.due("ahead", c.x.moved(0, 0, 2, 0), 1).due("from", c.x.moved(0, 0, 2, 1), 10);
        c.due("behind", c.x.moved(0, 1, 2, 0), 51).due("from", c.x.moved(0, 1, 2, 1), 51);
        c.due("himself", c.x.moved(0, 0, 1, 0), 1).due("from", c.x.moved(0, 0, 1, 1), 1);
        c.due("any", c.x.moved(0, 1, 1, 0), 1).due("from", c.x.moved(0, 1, 1, 1), 50);
        c.due("first", c.x.moved(0, 1, 0, 0), 1).due("from", c.x.moved(0, 1, 0, 1), 0);
        c.due("never", c.x.moved(0, 1, 5, 0), -2).due("never", c.x.moved(0, 1, 5, 1), -2);
        c.due("it stays", c.x.talks(0, 2), 50).due("it stays", c.x.talks(1, 2), 10);
        c.law("tell hour>97", 1).due("late", c.x.moved(1, 0, 1, 0), 98).due("late", c.x.moved(1, 0, 1, 1), 98);
        c.law("tell hour=99", 2).due("at the last", c.x.moved(2, 0, 1, 0), 99).due("at the last", c.x.moved(2, 0, 1, 1), 99);
        c.due("what", c.x.moved(0, 0, 0, 2), -1).due("what", c.x.moved(0, 0, 0, -1), -1);
        c.due("talk", c.x.moved(0, 2, 0, 0), -1).due("talk", c.x.moved(0, -1, 0, 0), -1);
        c.due("law", c.x.moved(3, 0, 0, 0), -1).due("nobody", c.x.moved(0, 0, 10, 0), -1);
    }

    private static void saying(Check c, int other, int hour, int one, int another, int torn) {
        c.due("the one at " + hour, c.x.two(0, other, hour, 0), one);
        c.due("the other at " + hour, c.x.two(0, other, hour, 1), another);
        c.due("torn at " + hour, c.x.two(0, other, hour, 2), torn);
    }

    private static void two() {
        Check c = town("promise 35", "need 2 1;need 3 1;need 4 1;talk 0 2 5;talk 1 2 6;talk 0 3 7;talk 1 3 7;"
                + "talk 1 4 3", 5, 1);
        saying(c, 2, 0, 1, 2, 0);
        saying(c, 2, 3, 1, 18, 0);
        saying(c, 2, 5, 5, 18, 0);
        saying(c, 2, 6, 5, 18, 0);
        saying(c, 2, 7, 5, 18, 8);
        saying(c, 2, 99, 5, 18, 8);
        saying(c, 1, 99, 0, 0, 13);
        saying(c, 0, 99, 13, 0, 0);
        saying(c, 3, 99, 0, 18, 13);
        c.due("all stays", c.x.count(4), 1);
        c.due("what", c.x.two(0, 2, 9, 3), -1).due("what", c.x.two(0, 2, 9, -1), -1);
        c.due("hour", c.x.two(0, 2, 100, 0), -1).due("other", c.x.two(0, 1024, 9, 0), -1);
        c.due("other", c.x.two(0, -1, 9, 0), -1).due("law", c.x.two(1, 2, 9, 0), -1);
    }

    private static void tried() {
        // From x = 0 on the draws are, of 8 the rest: 0 4 4 5 2 7 5 5 2 2 ..
        Check c = town("promise 37", "need 1 1;talk 0 1 7", 1, 1);
        c.due("below 3", c.x.tried(0, 5, 3, 1, 99, 0), 3).due("together", c.x.tried(0, 5, 3, 1, 99, 1), 8);
        c.due("below 5", c.x.tried(0, 10, 5, 1, 7, 0), 4).due("ahead of it", c.x.tried(0, 10, 5, 1, 6, 0), 0);
        c.due("below 0", c.x.tried(0, 20, 0, 1, 99, 0), 20).due("below 8", c.x.tried(0, 20, 8, 1, 99, 0), 0);
        c.due("together", c.x.tried(0, 20, 8, 9, 99, 1), 20).due("x stays", c.x.count(6), 0);
        c.x.seed(12345);
        c.due("from the second on", c.x.tried(0, 4, 3, 1, 99, 0), 3).due("x stays", c.x.count(6), 12345);
        c.x.seed(0);
        c.town("need 1 1;need 2 1;talk 0 1 1;talk 0 2 1", 2);
        c.due("1", c.x.tried(0, 2, 5, 1, 99, 0), 0).due("2", c.x.tried(0, 2, 5, 2, 99, 0), 1);
        c.due("1", c.x.tried(0, 2, 4, 1, 99, 0), 1).due("2", c.x.tried(0, 2, 4, 2, 99, 0), 2);
        c.due("together", c.x.tried(0, 2, 4, 2, 99, 1), 5);
        int[][] wrong = {{1, 1, 1, 1, 1, 0}, {0, 0, 1, 1, 1, 0}, {0, 21, 1, 1, 1, 0}, {0, 1, -1, 1, 1, 0},
            {0, 1, 9, 1, 1, 0}, {0, 1, 1, 10, 1, 1}, {0, 1, 1, -1, 1, 1}, {0, 1, 1, 1, 100, 0}, {0, 1, 1, 1, -1, 0},
            {0, 1, 1, 1, 1, 2}, {0, 1, 1, 1, 1, -1}, {-1, 1, 1, 1, 1, 0}};
        for (int[] w : wrong) {
            c.due("wrong", c.x.tried(w[0], w[1], w[2], w[3], w[4], w[5]), -1);
        }
        c.x.seed(Integer.MAX_VALUE);
        c.due("from the highest", c.x.tried(0, 1, 8, 0, 0, 0), 1).due("x stays", c.x.count(6), Integer.MAX_VALUE);
    }
}
