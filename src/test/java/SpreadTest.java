/** Promises 11 to 17, 24 to 26, 29 to 31 and 33: who has it by which rows, and believes it when. */
public final class SpreadTest {
    /**
     * 1 has {0} from 1 on; 3 has {0, 1} and {0, 2} from 2 on, {9} from 4 on; 4 has {0, 1, 3},
     * {0, 2, 3} and {3, 9} from 5 on; 4 tells 3 nothing new; 1 has {0, 2, 3, 4} and {3, 4, 9} from 7 on.
     */
    private static Check town(String name) {
        Check c = new Check(name);
        c.town("talk 0 1 1;talk 0 2 1;talk 1 3 2;talk 2 3 2;talk 9 3 4;talk 3 4 5;talk 4 3 6;talk 4 1 7;"
                + "need 1 1", 8);
        c.law("tell 1=1", 0);
        c.x.first(513);
        return c;
    }

    public static void main(String[] args) {
        believes();
        has();
        known();
        part();
        row();
        tells();
        spreadAndLast();
        rowAt();
        mouths();
        turn();
        doubts();
        apart();
        weight();
        way();
        hearing();
        Check.finish();
    }

    private static void believes() {
        Check c = town("promise 11");
        int[] due = {0, 1, -2, 4, -2, -2, -2, -2, -2, 0};
        for (int p = 0; p < 10; p++) {
            c.due("believes " + p, c.x.believes(0, p), due[p]);
        }
        c.due("no law", c.x.believes(1, 0), -1).due("no law", c.x.believes(-1, 0), -1);
        c.due("nobody", c.x.believes(0, 10), -1).due("nobody", c.x.believes(0, -1), -1);
        c.x.first(0);
        c.due("nobody first", c.x.believes(0, 1), -2).due("nobody first", c.x.believes(0, 0), -2);
        c.x.first(513);
        c.law("hush from=9", 1).due("by another law", c.x.believes(1, 3), -2);
        c.law("tell from=9 or hour<2", 2).due("by another law", c.x.believes(2, 3), -2);
        c.law("tell hour=1 or from=9 or from=2", 3).due("by another law", c.x.believes(3, 3), 4);
        c.x.talk(9, 2, 99);
        c.due("at the last hour", c.x.believes(0, 2), 99);
    }

    private static void has() {
        Check c = town("promise 12");
        int[] due = {0, 1, 1, 2, 5, -2, -2, -2, -2, 0};
        for (int p = 0; p < 10; p++) {
            c.due("has " + p, c.x.has(0, p), due[p]);
        }
        c.due("no law", c.x.has(1, 0), -1).due("nobody", c.x.has(0, 10), -1).due("nobody", c.x.has(0, -1), -1);
        c.x.silent(1);
        c.due("0 is silent", c.x.has(0, 2), -2).due("0 is silent", c.x.has(0, 0), 0).due("9 is not", c.x.has(0, 3), 4);
    }

    private static void knowing(Check c, int person, int hour, int... due) {
        for (int what = 0; what < 6; what++) {
            c.due("known(" + person + ", " + hour + ", " + what + ")", c.x.known(0, person, hour, what), due[what]);
        }
    }

    private static void known() {
        Check c = town("promise 13");
        knowing(c, 3, 0, 0, 0, -2, -2, -2, -2);
        knowing(c, 3, 1, 0, 0, -2, -2, -2, -2);
        knowing(c, 3, 2, 2, 2, 0, -2, -2, -2);
        knowing(c, 3, 3, 2, 2, 0, -2, -2, -2);
        knowing(c, 3, 4, 3, 1, -2, 3, 512, -2);
        knowing(c, 3, 99, 3, 1, -2, 3, 512, -2);
        knowing(c, 4, 5, 3, 2, 3, -2, -2, -2);
        knowing(c, 1, 1, 1, 1, 0, 1, -2, -2);
        knowing(c, 1, 7, 3, 1, -2, 1, -2, -2);
        knowing(c, 0, 99, 0, 0, -2, -2, -2, -2);
        c.due("what", c.x.known(0, 3, 4, 6), -1).due("what", c.x.known(0, 3, 4, -1), -1);
        c.due("hour", c.x.known(0, 3, 100, 0), -1).due("hour", c.x.known(0, 3, -1, 0), -1);
        c.due("law", c.x.known(1, 3, 4, 0), -1).due("nobody", c.x.known(0, 10, 4, 0), -1);
    }

    private static void part() {
        Check c = new Check("promise 13, part of three");
        c.town("need 9 3;talk 0 4 1;talk 4 9 2;talk 0 9 3;talk 1 9 3;talk 2 9 5;talk 3 9 5", 6);
        c.law("tell 1=1", 0);
        c.x.first(15);
        knowing(c, 9, 3, 3, 1, -2, -2, -2, -2);
        knowing(c, 9, 5, 5, 1, -2, 1, 2, 4);
        c.due("believes", c.x.believes(0, 9), 5);
        // The rows {0, 1}, {0, 2} and {1, 5}: the least one parts from none.
        Check d = new Check("promise 13, part without the least row");
        d.town("talk 0 1 1;talk 0 2 1;talk 5 1 1;talk 1 3 2;talk 2 3 2", 5);
        d.law("tell 1=1", 0);
        d.x.first(33);
        knowing(d, 3, 2, 3, 2, -2, 5, 34, -2);
        d.due("rows", d.x.rowAt(0, 3, 2, 0), 3);
    }

    private static void row() {
        Check c = town("promise 14");
        c.due("row", c.x.row(0, 3, 2, 3), 1).due("row", c.x.row(0, 3, 1, 3), 0).due("row", c.x.row(0, 3, 3, 512), 0);
        c.due("row", c.x.row(0, 3, 4, 512), 1).due("row", c.x.row(0, 3, 4, 513), 0).due("row", c.x.row(0, 3, 4, 0), 0);
        c.due("row", c.x.row(0, 4, 5, 520), 1).due("row", c.x.row(0, 4, 99, 1023), 0);
        c.due("no row", c.x.row(0, 3, 4, 1024), -1).due("no row", c.x.row(0, 3, 4, -1), -1);
        c.due("hour", c.x.row(0, 3, 100, 3), -1).due("law", c.x.row(1, 3, 4, 3), -1);
        c.due("nobody", c.x.row(0, 10, 4, 3), -1);
    }

    private static void tells() {
        Check c = town("promise 15");
        for (int t = 0; t < 8; t++) {
            c.due("tells " + t, c.x.tells(0, t), 1);
        }
        c.due("no talk", c.x.tells(0, 8), -1).due("no talk", c.x.tells(0, -1), -1).due("law", c.x.tells(1, 0), -1);
        c.x.first(512);
        int[] due = {0, 0, 0, 0, 1, 1, 1, 1};
        for (int t = 0; t < 8; t++) {
            c.due("tells " + t, c.x.tells(0, t), due[t]);
        }
        c.x.first(513);
        c.x.silent(8);
        c.due("silent", c.x.tells(0, 5), 0).due("nothing to tell", c.x.tells(0, 6), 0);
        c.town("talk 0 1 1;deaf 1 1 1;talk 0 2 1;proud 2 0;talk 0 3 1;talk 1 4 2", 4);
        c.x.first(9);
        c.due("deaf", c.x.tells(0, 0), 1).due("proud", c.x.tells(0, 1), 1).due("to a first one", c.x.tells(0, 2), 1);
        c.due("the deaf one has nothing", c.x.tells(0, 3), 0);
    }

    private static void spreadAndLast() {
        Check c = town("promises 16 and 17");
        int[] believe = {2, 3, 3, 3, 4, 4, 4, 4, 4};
        int[] have = {2, 4, 5, 5, 5, 6, 6, 6, 6};
        for (int h = 0; h < 9; h++) {
            c.due("believe at " + h, c.x.spread(0, h, 0), believe[h]);
            c.due("have at " + h, c.x.spread(0, h, 1), have[h]);
        }
        c.due("at 99", c.x.spread(0, 99, 0), 4).due("what", c.x.spread(0, 5, 2), -1);
        c.due("what", c.x.spread(0, 5, -1), -1).due("hour", c.x.spread(0, 100, 0), -1);
        c.due("hour", c.x.spread(0, -1, 0), -1).due("law", c.x.spread(1, 5, 0), -1);
        c.due("last", c.x.last(0), 4).due("law", c.x.last(1), -1).due("law", c.x.last(-1), -1);
        c.x.first(512);
        c.due("1 by 9, 3 and 4", c.x.last(0), 7);
        c.x.first(0);
        c.due("nobody", c.x.last(0), 0);
        c.x.first(1023);
        c.due("all at first", c.x.last(0), 0).due("all", c.x.spread(0, 0, 0), 10);
    }

    private static void rowAt() {
        Check c = town("promise 24");
        int[] due = {11, 13, 520, -2, -2};
        for (int k = 0; k < due.length; k++) {
            c.due("rowAt " + k, c.x.rowAt(0, 4, 5, k), due[k]);
        }
        c.due("ahead of it", c.x.rowAt(0, 4, 4, 0), -2).due("k", c.x.rowAt(0, 4, 5, -1), -1);
        c.due("k", c.x.rowAt(0, 4, 5, Integer.MAX_VALUE), -2).due("hour", c.x.rowAt(0, 4, 100, 0), -1);
        c.due("law", c.x.rowAt(1, 4, 5, 0), -1).due("nobody", c.x.rowAt(0, 10, 5, 0), -1);
        c.due("first", c.x.rowAt(0, 9, 5, 0), -2);
    }

    private static void mouths() {
        Check c = town("promise 25");
        c.due("some", c.x.mouths(0, 4, 5, 0), 527).due("all", c.x.mouths(0, 4, 5, 1), 8);
        c.due("some", c.x.mouths(0, 3, 3, 0), 7).due("all", c.x.mouths(0, 3, 3, 1), 1);
        c.due("all", c.x.mouths(0, 3, 4, 1), 0).due("none", c.x.mouths(0, 3, 1, 0), 0);
        c.due("none", c.x.mouths(0, 3, 1, 1), 0).due("one", c.x.mouths(0, 1, 1, 1), 1);
        c.due("what", c.x.mouths(0, 3, 1, 2), -1).due("what", c.x.mouths(0, 3, 1, -1), -1);
        c.due("hour", c.x.mouths(0, 3, 100, 0), -1).due("law", c.x.mouths(1, 3, 1, 0), -1);
        c.due("nobody", c.x.mouths(0, -1, 1, 0), -1);
    }

    private static void turn() {
        Check c = town("promise 26");
        int[] due = {0, 9, 1, 3, -2, -2};
        for (int k = 0; k < due.length; k++) {
            c.due("turn " + k, c.x.turn(0, k), due[k]);
        }
        c.due("k", c.x.turn(0, -1), -1).due("k", c.x.turn(0, Integer.MAX_VALUE), -2).due("law", c.x.turn(1, 0), -1);
    }

    private static void doubts() {
        Check c = town("promise 29");
        int[] due = {0, 0, 8, 8, 0, 16, 16, 16};
        for (int h = 0; h < due.length; h++) {
            c.due("doubts at " + h, c.x.doubts(0, h), due[h]);
        }
        c.due("hour", c.x.doubts(0, 100), -1).due("hour", c.x.doubts(0, -1), -1).due("law", c.x.doubts(1, 0), -1);
    }

    private static void apart() {
        Check c = town("promise 30");
        c.due("none", c.x.apart(0, 3, 1), 0).due("gate", c.x.apart(0, 3, 3), 1).due("two", c.x.apart(0, 3, 4), 2);
        c.due("more than needed", c.x.apart(0, 1, 7), 2).due("first", c.x.apart(0, 0, 99), 0);
        c.due("hour", c.x.apart(0, 3, 100), -1).due("law", c.x.apart(1, 3, 4), -1);
        c.due("nobody", c.x.apart(0, 10, 4), -1);
        c.town("talk 0 9 1;talk 1 9 1;talk 2 9 1;talk 3 9 1;talk 4 9 1;talk 5 9 1;talk 6 9 1;talk 7 9 1;talk 8 9 1", 9);
        c.x.first(511);
        c.due("nine", c.x.apart(0, 9, 1), 9);
    }

    private static void weight() {
        Check c = town("promise 31");
        c.due("9", c.x.weight(0, 9, 99), 1).due("9", c.x.weight(0, 9, 3), 0).due("1", c.x.weight(0, 1, 99), 0);
        c.due("0, till 5", c.x.weight(0, 0, 5), 2).due("0", c.x.weight(0, 0, 99), 1).due("5", c.x.weight(0, 5, 99), 0);
        c.due("hour", c.x.weight(0, 3, 100), -1).due("law", c.x.weight(1, 3, 4), -1);
        c.due("nobody", c.x.weight(0, 10, 4), -1);
        c.x.silent(512);
        c.due("silent already", c.x.weight(0, 9, 99), 0).due("all stays", c.x.count(5), 512);
        // 1 hushes when he has heard 2: without 2 one more believes it.
        Check d = new Check("promise 31, more without him");
        d.town("need 3 1;talk 0 1 1;talk 2 1 2;talk 1 3 3", 3);
        d.law("hush from=1 and mouths=2", 0);
        d.x.first(5);
        d.due("1 less, 3 more", d.x.weight(0, 2, 99), 0);
        d.town("need 3 1;talk 0 1 1;talk 2 1 2;talk 1 3 3;need 4 1;talk 1 4 4;need 5 1;talk 1 5 4;need 6 1;talk 1 6 9", 6);
        d.due("1 less, 3 to 6 more", d.x.weight(0, 2, 99), -3);
    }

    private static void ways(Check c, int person, int row, int... due) {
        for (int k = 0; k < due.length; k++) {
            c.due("way(" + person + ", " + row + ", " + k + ")", c.x.way(0, person, row, k), due[k]);
        }
    }

    private static void way() {
        Check c = town("promise 33");
        ways(c, 4, 11, 0, 2, 5, -2);
        ways(c, 4, 13, 1, 3, 5, -2);
        ways(c, 4, 520, 4, 5, -2, -2);
        ways(c, 1, 29, 1, 3, 5, 7, -2);
        ways(c, 1, 1, 0, -2);
        ways(c, 4, 3, -2);
        ways(c, 4, 0, -2);
        ways(c, 0, 1, -2);
        c.due("k", c.x.way(0, 4, 11, -1), -1).due("row", c.x.way(0, 4, 1024, 0), -1);
        c.due("row", c.x.way(0, 4, -1, 0), -1).due("law", c.x.way(1, 4, 11, 0), -1);
        c.due("nobody", c.x.way(0, 10, 11, 0), -1).due("k", c.x.way(0, 4, 11, Integer.MAX_VALUE), -2);
        Check d = new Check("promise 33, the first of several");
        d.law("tell 1=1", 0);
        d.x.first(1);
        d.town("talk 0 1 5;talk 0 1 3;talk 0 1 1;talk 1 2 9;talk 1 2 4;talk 1 2 4", 6);
        ways(d, 2, 3, 1, 4, -2);
        d.town("talk 0 1 5;talk 0 2 1;talk 2 1 2;talk 1 2 6;talk 2 3 7;talk 1 3 7", 6);
        ways(d, 3, 7, 0, 3, 4, -2);
        d.town("talk 0 1 5;talk 0 2 1;talk 2 1 2;talk 1 2 6;talk 2 3 8;talk 1 3 7", 6);
        ways(d, 3, 7, 1, 2, 5, -2);
        d.town("talk 0 1 1;talk 0 1 2;talk 1 2 3;deaf 1 1 1", 3);
        ways(d, 2, 3, 1, 2, -2);
        d.law("hush hour=1", 1);
        d.town("talk 0 1 1;talk 0 1 2;talk 1 2 3", 3);
        d.due("one that does not tell", d.x.way(1, 2, 3, 0), 1);
    }

    private static void hearing() {
        Check c = new Check("who hears when");
        c.law("tell 1=1", 0);
        c.x.first(1);
        c.town("need 1 1;deaf 1 2 4;talk 0 1 2;talk 0 1 4", 2).due("deaf", c.x.believes(0, 1), -2);
        c.town("need 1 1;deaf 1 2 4;talk 0 1 2;talk 0 1 5", 2).due("not deaf", c.x.believes(0, 1), 5);
        c.town("need 1 1;deaf 1 2 4;talk 0 1 1;talk 0 1 5", 2).due("not deaf", c.x.believes(0, 1), 1);
        c.town("need 1 1;proud 1 0;talk 0 1 1", 1).due("proud", c.x.believes(0, 1), -2);
        c.town("need 1 1;proud 0 1;talk 0 1 1", 1).due("the other is proud", c.x.believes(0, 1), 1);
        c.town("talk 0 1 1;talk 1 2 1;talk 1 3 2", 3).due("of the same hour", c.x.has(0, 2), -2);
        c.due("of the next", c.x.has(0, 3), 2);
        c.town("talk 1 2 3;talk 0 1 2", 2).due("by hours, not by numbers", c.x.has(0, 2), 3);
        c.x.first(3);
        c.town("talk 0 1 1;talk 1 2 2", 2).due("a first one passes himself on", c.x.rowAt(0, 2, 9, 0), 2);
        c.due("and nothing else", c.x.known(0, 2, 9, 0), 1);
    }
}
