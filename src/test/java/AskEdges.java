/** The edges of what is asked of a town as told: promises 11 to 17, 24 to 26, 29 to 33, and their terms in III and IV. */
final class AskEdges {
    private static final int MAX = Integer.MAX_VALUE;

    /** 3 has {1} from 2 on, {2} from 99 on; 4 has {1, 3} from 3 on; 5 hears nothing. First are 1 and 2. */
    private static final String TOWN = "talk 1 3 2;talk 2 3 99;talk 3 4 3;talk 1 5 4;deaf 5 4 4;need 4 1";

    private AskEdges() {
    }

    static void run() {
        believes();
        has();
        known();
        knownPart();
        row();
        tells();
        spread();
        last();
        rowAt();
        mouths();
        turn();
        doubt();
        apart();
        weight();
        reach();
        way();
        wayOfSeveral();
    }

    private static void believes() {
        Check c = Sentence.told("11", "The HOUR from which one believes it by a LAW; -2: never;", TOWN, 4, 6);
        int[] due = {-2, 0, 0, 99, 3, -2, -2, -2, -2, -2};
        for (int p = 0; p < 10; p++) {
            c.due("believes " + p, c.x.believes(0, p), due[p]);
        }
        c.law("hush hour=99", 1).due("by another law", c.x.believes(1, 3), -2).due("4", c.x.believes(1, 4), 3);
        c.town("need 9 1;talk 1 9 1", 1).due("from 1 on", c.x.believes(0, 9), 1);
    }

    private static void has() {
        Check c = Sentence.told("12", "The HOUR from which one has a ROW (a FIRST one: 0); -2: never;", TOWN, 4, 6);
        int[] due = {-2, 0, 0, 2, 3, -2, -2, -2, -2, -2};
        for (int p = 0; p < 10; p++) {
            c.due("has " + p, c.x.has(0, p), due[p]);
        }
        c.town("talk 1 2 5;talk 1 9 1;talk 2 8 99", 3).due("a first one who is told", c.x.has(0, 2), 0);
        c.due("at 1", c.x.has(0, 9), 1).due("at 99", c.x.has(0, 8), 99);
    }

    private static void known() {
        String quote = "KNOWN at an HOUR (0 to 99) what 0: how many ROWS one has, 1: how many mouths the shortest one (0 without any), 2: the GATE (-2: none),";
        Check c = Sentence.told("13", quote, TOWN, 4, 6);
        int[] hours = {0, 1, 2, 98, 99};
        int[][] due = {{0, 0, -2}, {0, 0, -2}, {1, 1, 1}, {1, 1, 1}, {2, 1, -2}};
        for (int i = 0; i < hours.length; i++) {
            for (int what = 0; what < 3; what++) {
                c.due("3 at " + hours[i] + ", " + what, c.x.known(0, 3, hours[i], what), due[i][what]);
            }
        }
        c.due("4", c.x.known(0, 4, 3, 1), 2).due("4", c.x.known(0, 4, 3, 2), 1).due("5", c.x.known(0, 5, 99, 0), 0);
        c.due("first", c.x.known(0, 1, 99, 0), 0).due("first", c.x.known(0, 1, 99, 1), 0).due("first", c.x.known(0, 1, 99, 2), -2);
        c.due("gate 0 is one", oneRowOf0(), 0);
    }

    private static int oneRowOf0() {
        TwoMouths x = new TwoMouths();
        Twins.text(x, "tell 1=1");
        x.law();
        x.talk(0, 9, 1);
        x.first(1);
        return x.known(0, 9, 1, 2);
    }

    private static void knownPart() {
        Check c = Sentence.told("13", "3, 4, 5: the first, second, third ROW of PART (-2: there is none, or he needs not so many).",
                "need 7 1;need 9 3;talk 1 7 1;talk 2 7 1;talk 3 7 1;talk 1 8 1;talk 2 8 2;talk 3 8 2;talk 1 9 1;talk 2 9 2;"
                + "talk 3 9 3;talk 1 6 1", 10, 14);
        int[][] due = {{2, -2, -2}, {2, 4, -2}, {2, 4, 8}, {-2, -2, -2}};
        int[] people = {7, 8, 9, 6};
        for (int i = 0; i < people.length; i++) {
            for (int k = 0; k < 3; k++) {
                c.due(people[i] + ", " + k, c.x.known(0, people[i], 99, 3 + k), due[i][k]);
            }
        }
        c.due("9, two of three", c.x.known(0, 9, 2, 3), -2).due("8, one of two", c.x.known(0, 8, 1, 3), -2);
        c.due("9 at 3", c.x.known(0, 9, 3, 5), 8).due("8 at 2", c.x.known(0, 8, 2, 4), 4).due("7 at 0", c.x.known(0, 7, 0, 3), -2);
        c.due("first", c.x.known(0, 1, 99, 3), -2);
    }

    private static void row() {
        Check c = Sentence.told("14", "1 if one has a ROW (as bits) at an HOUR, 0 if not;", TOWN, 4, 6);
        c.due("{1} at 1", c.x.row(0, 3, 1, 2), 0).due("{1} at 2", c.x.row(0, 3, 2, 2), 1);
        c.due("{2} at 98", c.x.row(0, 3, 98, 4), 0).due("{2} at 99", c.x.row(0, 3, 99, 4), 1);
        for (int set : new int[] {0, 1, 3, 5, 6, 8, 10, 512, 1023}) {
            c.due("set " + set, c.x.row(0, 3, 99, set), 0);
        }
        c.due("at 0", c.x.row(0, 4, 0, 10), 0).due("{1, 3}", c.x.row(0, 4, 3, 10), 1).due("first", c.x.row(0, 1, 99, 0), 0);
        c.due("{0..8}", longestRow(), 1);
    }

    private static int longestRow() {
        TwoMouths x = new TwoMouths();
        Twins.text(x, "tell 1=1");
        x.law();
        for (int p = 9; p > 0; p--) {
            x.talk(p, p - 1, 10 - p);
        }
        x.first(512);
        return x.row(0, 0, 9, 1022);
    }

    private static void tells() {
        Check c = Sentence.told("15",
                "1 if a TALK tells it, 0 if not (one who doesn't HEAR, or is FIRST, counts as told; SILENT ones don't tell);",
                TOWN + ";talk 1 2 1;talk 5 6 99;proud 8 1;talk 1 8 99", 7, 6);
        int[] due = {1, 1, 1, 1, 1, 0, 1};
        for (int t = 0; t < due.length; t++) {
            c.due("tells " + t, c.x.tells(0, t), due[t]);
        }
        c.x.silent(2);
        int[] silent = {0, 1, 0, 0, 0, 0, 0};
        for (int t = 0; t < due.length; t++) {
            c.due("1 is silent, " + t, c.x.tells(0, t), silent[t]);
        }
        c.x.silent(0);
        c.law("hush hour=99", 1).due("hushed", c.x.tells(1, 1), 0).due("not", c.x.tells(1, 0), 1);
    }

    private static void spread() {
        Check c = Sentence.told("III", "SPREAD at an HOUR: how many believe it, have a ROW or are FIRST.", TOWN, 4, 6);
        int[][] due = {{0, 2, 2}, {1, 2, 2}, {2, 2, 3}, {3, 3, 4}, {98, 3, 4}, {99, 4, 4}};
        for (int[] d : due) {
            c.due("believe at " + d[0], c.x.spread(0, d[0], 0), d[1]).due("have at " + d[0], c.x.spread(0, d[0], 1), d[2]);
        }
        c = Sentence.told("16", "SPREAD what 0: how many believe it, 1: have a ROW or are FIRST;", TOWN, 4, 0);
        c.due("nobody", c.x.spread(0, 99, 0), 0).due("nobody", c.x.spread(0, 99, 1), 0);
        c.x.first(1023);
        c.due("all", c.x.spread(0, 0, 0), 10).due("all", c.x.spread(0, 0, 1), 10);
        c.x.first(2);
        c.due("1 and 4", c.x.spread(0, 99, 0), 2).due("3, too", c.x.spread(0, 99, 1), 3);
    }

    private static void last() {
        Check c = Sentence.told("III", "LAST: the HOUR from which as many believe it as at HOUR 99.", TOWN, 4, 6);
        c.due("at the last hour", c.x.last(0), 99);
        c.x.first(2);
        c.due("4 by 3", c.x.last(0), 3);
        c.x.first(0);
        c.due("nobody", c.x.last(0), 0);
        c = Sentence.told("17", "LAST;", "need 9 1;talk 0 9 1;talk 0 8 50", 2, 1);
        c.due("from 1 on", c.x.last(0), 1);
        c.x.first(1023);
        c.due("all at 0", c.x.last(0), 0);
        c.town("need 0 1;need 9 1;talk 5 0 9;talk 5 9 8", 2);
        c.x.first(32);
        c.due("0 is the last", c.x.last(0), 9);
        c.town("need 0 1;need 9 1;talk 5 0 8;talk 5 9 9", 2).due("9 is the last", c.x.last(0), 9);
    }

    private static void rowAt() {
        Check c = Sentence.told("24", "The k-th ROW of one at an HOUR (k from 0 on, as numbers); -2: there is none;",
                "talk 9 8 5;talk 0 8 6;talk 0 1 1;talk 1 8 7", 4, 513);
        int[][] due = {{4, -2}, {5, 512, -2}, {6, 1, 512, -2}, {7, 1, 3, 512, -2}, {99, 1, 3, 512, -2}};
        for (int[] d : due) {
            for (int k = 1; k < d.length; k++) {
                c.due("row " + (k - 1) + " at " + d[0], c.x.rowAt(0, 8, d[0], k - 1), d[k]);
            }
        }
        c.due("far", c.x.rowAt(0, 8, 99, MAX), -2).due("first", c.x.rowAt(0, 9, 99, 0), -2).due("at 0", c.x.rowAt(0, 8, 0, 0), -2);
        // Rows whose numbers follow one another: 3 and 4, passed on as 515 and 516.
        c.town("talk 0 1 1;talk 1 9 2;talk 2 9 3;talk 9 8 4", 4);
        c.x.first(5);
        c.due("3", c.x.rowAt(0, 9, 3, 0), 3).due("4", c.x.rowAt(0, 9, 3, 1), 4).due("no more", c.x.rowAt(0, 9, 3, 2), -2);
        c.due("515", c.x.rowAt(0, 8, 4, 0), 515).due("516", c.x.rowAt(0, 8, 4, 1), 516).due("no more", c.x.rowAt(0, 8, 4, 2), -2);
        c.due("shortest", c.x.known(0, 9, 3, 1), 1).due("gate", c.x.known(0, 9, 3, 2), -2).due("gate", c.x.known(0, 8, 4, 2), 9);
        c.due("some", c.x.mouths(0, 9, 3, 0), 7).due("all", c.x.mouths(0, 9, 3, 1), 0).due("all", c.x.mouths(0, 8, 4, 1), 512);
        c.due("apart", c.x.apart(0, 9, 3), 2).due("part", c.x.known(0, 9, 3, 4), 4);
        // 6 and 7: by 1 and 2, and by 1, 0 and 2.
        c.town("talk 1 0 1;talk 1 2 1;talk 0 2 2;talk 2 9 3", 4);
        c.x.first(2);
        c.due("6", c.x.rowAt(0, 9, 3, 0), 6).due("7", c.x.rowAt(0, 9, 3, 1), 7).due("no more", c.x.rowAt(0, 9, 3, 2), -2);
        c.due("some", c.x.mouths(0, 9, 3, 0), 7).due("all", c.x.mouths(0, 9, 3, 1), 6).due("gate", c.x.known(0, 9, 3, 2), 1);
    }

    private static void mouths() {
        Check c = Sentence.told("25",
                "What 0: mouths that are in some ROW of one at an HOUR, 1: in all of them (0 without any); as bits.",
                "talk 9 8 5;talk 9 7 1;talk 7 8 6;talk 0 8 7", 4, 513);
        int[][] due = {{0, 0, 0}, {4, 0, 0}, {5, 512, 512}, {6, 640, 512}, {7, 641, 0}, {99, 641, 0}};
        for (int[] d : due) {
            c.due("some at " + d[0], c.x.mouths(0, 8, d[0], 0), d[1]).due("all at " + d[0], c.x.mouths(0, 8, d[0], 1), d[2]);
        }
        c.due("first", c.x.mouths(0, 9, 99, 0), 0).due("first", c.x.mouths(0, 9, 99, 1), 0);
    }

    private static void turn() {
        Check c = Sentence.told("IV", "TURN: those who believe it by HOUR 99, by from when, of one HOUR by their numbers.",
                "need 0 1;need 1 1;need 2 1;need 3 1;talk 9 3 1;talk 9 1 99;talk 9 0 7;talk 9 2 1;talk 9 4 5", 5, 512);
        int[] due = {9, 2, 3, 0, 1, -2};
        for (int k = 0; k < due.length; k++) {
            c.due("turn " + k, c.x.turn(0, k), due[k]);
        }
        c = Sentence.told("26", "The k-th by TURN (k from 0 on); -2: so many don't believe it;", "talk 0 1 1", 1, 1023);
        for (int k = 0; k < 10; k++) {
            c.due("all, turn " + k, c.x.turn(0, k), k);
        }
        c.due("an eleventh", c.x.turn(0, 10), -2).due("far", c.x.turn(0, MAX), -2);
        c.x.first(0);
        c.due("nobody", c.x.turn(0, 0), -2);
    }

    private static void doubt() {
        Check c = Sentence.told("IV", "DOUBT at an HOUR: PEOPLE who have as many ROWS as they need, or more, and don't believe it.",
                "talk 0 1 1;talk 0 2 1;talk 1 9 2;talk 2 9 3;talk 0 9 4;talk 5 9 5", 6, 33);
        // 9 has one row at 2, two at 3, three at 4, all by 0; at 5 one of his own.
        int[][] due = {{0, 0}, {1, 0}, {2, 0}, {3, 512}, {4, 512}, {5, 0}, {99, 0}};
        for (int[] d : due) {
            c.due("at " + d[0], c.x.doubts(0, d[0]), d[1]);
        }
        c = Sentence.told("29", "DOUBT, as bits;", "need 9 3;need 8 1;talk 0 1 1;talk 0 2 1;talk 1 9 2;talk 2 9 3;talk 0 9 4;"
                + "talk 1 0 2;talk 0 8 1;talk 0 3 1;talk 1 3 3", 9, 1);
        c.due("two of three", c.x.doubts(0, 3), 8).due("three of three", c.x.doubts(0, 4), 520).due("at 2", c.x.doubts(0, 2), 0);
        c.due("first ones, and who needs one, never do", c.x.doubts(0, 99), 520);
        c.town("talk 5 1 1;talk 5 2 1;talk 1 0 2;talk 2 0 2;talk 1 9 2;talk 2 9 2", 6);
        c.x.first(32);
        c.due("0 and 9", c.x.doubts(0, 2), 513);
    }

    private static void apart() {
        Check c = Sentence.told("IV", "APART: the most ROWS of one at an HOUR no two of which have a mouth in common.",
                "talk 1 2 1;talk 5 2 1;talk 1 3 1;talk 2 9 3;talk 3 9 5;talk 0 9 6", 6, 35);
        // {1, 2}, {2, 5}; {1, 3} at 5; {0} at 6: the least row is in no choice of the most.
        int[][] due = {{0, 0}, {2, 0}, {3, 1}, {5, 2}, {6, 3}, {99, 3}};
        for (int[] d : due) {
            c.due("at " + d[0], c.x.apart(0, 9, d[0]), d[1]);
        }
        c.due("first", c.x.apart(0, 0, 99), 0).due("one", c.x.apart(0, 3, 99), 1);
        StringBuilder all = new StringBuilder("talk 0 9 1");
        for (int p = 1; p < 9; p++) {
            all.append(";talk ").append(p).append(" 9 ").append(p + 1);
        }
        c = Sentence.told("30", "APART;", all.toString(), 9, 511);
        for (int hour = 0; hour <= 9; hour++) {
            c.due("at " + hour, c.x.apart(0, 9, hour), hour);
        }
    }

    private static void weight() {
        Check c = Sentence.told("IV", "WEIGHT of one: how many less believe it behind an HOUR, if he is SILENT as well.", TOWN, 4, 6);
        int[][] due = {{1, 1, 0}, {1, 2, 0}, {1, 3, 1}, {1, 98, 1}, {1, 99, 2}, {2, 98, 0}, {2, 99, 1}, {3, 2, 0}, {3, 3, 1},
            {4, 99, 0}, {0, 99, 0}, {1, 0, 0}};
        for (int[] d : due) {
            c.due(d[0] + " at " + d[1], c.x.weight(0, d[0], d[1]), d[2]);
        }
        c.x.silent(2);
        c.due("silent already", c.x.weight(0, 1, 99), 0);
        c.x.silent(4);
        c.due("another one is", c.x.weight(0, 1, 99), 1).due("set", c.x.count(5), 4);
        // Whoever has heard 2 is hushed: without 2 more believe it.
        c = Sentence.of("31", "WEIGHT;");
        c.town("need 3 1;need 4 1;need 5 1;talk 0 1 1;talk 2 1 2;talk 1 3 3;talk 1 4 3;talk 1 5 3", 5);
        c.law("hush from=1 and mouths=2", 0);
        c.x.first(5);
        c.due("one less, three more", c.x.weight(0, 2, 99), -2).due("at 2", c.x.weight(0, 2, 2), 1);
    }

    private static void reach() {
        String quote = "REACH of one from an HOUR on: PEOPLE to whom TALKS lead, each at an HOUR above that of the one ahead "
                + "(the first one's not below that HOUR; only by who HEARS; laws, SILENT ones not looked at), himself, too.";
        Check c = Sentence.of("IV", quote);
        c.town("talk 0 1 5;talk 1 2 5;talk 1 3 6;talk 3 4 99;talk 4 5 99;talk 0 6 1;deaf 7 8 8;talk 0 7 8;proud 8 0;talk 0 8 9", 8);
        c.due("from 0", c.x.reach(0, 0), 1 + 2 + 8 + 16 + 64).due("from 1", c.x.reach(0, 1), 1 + 2 + 8 + 16 + 64);
        c.due("from 2", c.x.reach(0, 2), 1 + 2 + 8 + 16).due("from 5", c.x.reach(0, 5), 1 + 2 + 8 + 16);
        c.due("from 6", c.x.reach(0, 6), 1).due("3 from 99", c.x.reach(3, 99), 8 + 16).due("4 from 99", c.x.reach(4, 99), 16 + 32);
        c.due("1 from 5", c.x.reach(1, 5), 2 + 4 + 8 + 16).due("1 from 6", c.x.reach(1, 6), 2 + 8 + 16);
        c.x.silent(1023);
        c.law("hush 1=1", 0).due("silent ones, laws", c.x.reach(0, 5), 1 + 2 + 8 + 16);
        c.x.first(1023);
        c.due("first ones", c.x.reach(0, 5), 1 + 2 + 8 + 16);
        c = Sentence.of("32", "REACH, as bits;");
        c.due("without talks", c.x.reach(0, 0), 1).due("himself", c.x.reach(9, 99), 512);
        for (int p = 0; p < 9; p++) {
            c.x.talk(p, p + 1, p + 91);
        }
        c.due("all", c.x.reach(0, 91), 1023).due("himself alone", c.x.reach(0, 92), 1);
        // Who can be led to early and late is led to early.
        c.town("talk 0 1 3;talk 0 1 9;talk 1 2 5", 3).due("early", c.x.reach(0, 3), 7).due("late", c.x.reach(0, 4), 3);
        // What a call ahead of it has tried is gone.
        c.law("tell 1=1", 0).town("talk 0 1 3;talk 1 2 5", 2);
        c.due("moved", c.x.moved(0, 0, 0, 0), -2).due("behind moved", c.x.reach(0, 0), 7);
        c.due("letter", c.x.letter(0, 2, 1), -2).due("behind letter", c.x.reach(0, 0), 7);
        c.due("byBook", c.x.byBook(0, 2), -2).due("behind byBook", c.x.reach(0, 0), 7);
    }

    private static void ways(Check c, int person, int row, int... due) {
        for (int k = 0; k < due.length; k++) {
            c.due("way(" + person + ", " + row + ", " + k + ")", c.x.way(0, person, row, k), due[k]);
        }
    }

    private static void way() {
        Check c = Sentence.told("33",
                "The k-th TALK of the WAY of a ROW (k from 0 on; 0 to 1023); -2: he has it not (by HOUR 99), or the WAY has not so many;",
                TOWN, 4, 6);
        ways(c, 3, 2, 0, -2, -2);
        ways(c, 3, 4, 1, -2, -2);
        ways(c, 4, 10, 0, 2, -2);
        for (int set : new int[] {0, 1, 6, 8, 512, 1023}) {
            ways(c, 3, set, -2);
        }
        ways(c, 1, 2, -2);
        c.due("far", c.x.way(0, 4, 10, MAX), -2);
        StringBuilder chain = new StringBuilder();
        for (int p = 8; p >= 0; p--) {
            chain.append(p < 8 ? ";" : "").append("talk ").append(p).append(' ').append(p + 1).append(' ').append(p + 91);
        }
        c.town(chain.toString(), 9);
        c.x.first(1);
        ways(c, 9, 511, 8, 7, 6, 5, 4, 3, 2, 1, 0, -2);
    }

    private static void wayOfSeveral() {
        String quote = "A WAY of a ROW of one: TALKS that tell (its hearer HEARS it), one behind the other, each at an HOUR above that "
                + "of the one ahead, the first by a FIRST one, each by whom the one ahead told, the last to him, by all mouths of the "
                + "ROW and none else: as many TALKS as mouths; the last at the HOUR from which he has the ROW; of several the first "
                + "(by TALKS' numbers, where they part).";
        Check c = Sentence.told("IV", quote, "talk 0 1 4;talk 0 1 2;talk 0 1 1;talk 1 2 4;talk 1 2 3", 5, 1);
        // At 4 and behind it he has it already; talk 0 is at no hour above.
        ways(c, 2, 3, 1, 4, -2);
        c.town("talk 0 1 3;talk 0 1 1;talk 1 2 3", 3);
        ways(c, 2, 3, 1, 2, -2);
        // The last one is to him, not to another one at that hour.
        c.town("talk 0 1 1;talk 1 5 3;talk 1 2 3;talk 1 2 4", 4);
        ways(c, 2, 3, 0, 2, -2);
        c.town("deaf 1 2 2;talk 0 1 2;talk 0 1 1;talk 1 2 3", 3);
        ways(c, 2, 3, 1, 2, -2);
        c.town("proud 1 3;talk 0 3 1;talk 3 1 2;talk 3 2 2;talk 2 1 3;talk 0 1 3;talk 1 4 4", 6);
        ways(c, 1, 13, 0, 2, 3, -2);
        ways(c, 4, 15, 0, 2, 3, 5, -2);
        // {0, 1, 2} by 0, 1, 2 and by 0, 2, 1: where they part, the talk of the lesser number.
        c.town("talk 0 2 1;talk 0 1 1;talk 1 2 2;talk 2 1 2;talk 1 3 3;talk 2 3 3", 6);
        ways(c, 3, 7, 0, 3, 4, -2);
        c.town("talk 0 1 1;talk 0 2 1;talk 1 2 2;talk 2 1 2;talk 1 3 4;talk 2 3 3", 6);
        ways(c, 3, 7, 0, 2, 5, -2);
        c.town("talk 0 1 1;talk 0 2 1;talk 1 2 2;talk 2 1 2;talk 1 3 3;talk 2 3 4", 6);
        ways(c, 3, 7, 1, 3, 4, -2);
        c = Sentence.of("IV", quote);
        c.town("talk 0 1 1;talk 0 1 2;talk 1 2 3", 3).law("hush hour=1", 0);
        c.x.first(1);
        ways(c, 2, 3, 1, 2, -2);
    }
}
