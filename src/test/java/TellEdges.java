/** The edges of how it spreads: part II of the document. */
final class TellEdges {
    private TellEdges() {
    }

    static void run() {
        firstOnes();
        silentOnes();
        rowOfOthers();
        hours();
        whoTells();
        laws();
        hears();
        firstHearer();
        rowOfFirst();
        rowsPassedOn();
        wordsAhead();
        wordsAnew();
        noRowsOfFirst();
        rowStays();
        believesBehind();
        knownBehind();
        part();
        gate();
    }

    private static void firstOnes() {
        Check c = Sentence.told("II",
                "FIRST ones: a set of PEOPLE who see it themselves (told; empty at first); they believe it at HOUR 0.",
                "talk 0 9 1;talk 9 0 99", 2, 0);
        c.due("at first", c.x.spread(0, 99, 0), 0).due("nobody has it", c.x.spread(0, 99, 1), 0);
        for (int p = 0; p < 10; p++) {
            c.due("not first", c.x.believes(0, p), -2);
            c.x.first(1 << p);
            c.due("first", c.x.believes(0, p), 0).due("alone", c.x.spread(0, 0, 0), 1).due("has", c.x.has(0, p), 0);
            c.x.first(0);
        }
        c.x.first(1023);
        c.due("all", c.x.spread(0, 0, 0), 10).due("all", c.x.spread(0, 99, 0), 10).due("last", c.x.last(0), 0);
    }

    private static void silentOnes() {
        Check c = Sentence.told("II", "SILENT ones: a set of PEOPLE who never tell (told; empty at first).",
                "need 9 1;need 1 1;talk 0 1 1;talk 1 2 2;talk 0 9 99", 3, 1);
        c.due("set", c.x.count(5), 0).due("tells", c.x.tells(0, 0), 1).due("tells", c.x.tells(0, 2), 1);
        c.x.silent(1);
        c.due("at hour 1", c.x.tells(0, 0), 0).due("at hour 99", c.x.tells(0, 2), 0).due("1", c.x.has(0, 1), -2);
        c.due("he believes it himself", c.x.believes(0, 0), 0);
        c.x.silent(2);
        c.due("who is told hears it", c.x.believes(0, 1), 1).due("and does not tell", c.x.tells(0, 1), 0);
        c.x.silent(1023 - 1);
        c.due("all others", c.x.believes(0, 9), 99);
        c.x.silent(1023);
        c.due("all", c.x.spread(0, 99, 1), 1);
    }

    private static void rowOfOthers() {
        Check c = Sentence.told("II", "A ROW of one is a set of other PEOPLE, the mouths by which he has it.",
                "talk 0 1 1;talk 1 2 2;talk 2 1 3;talk 1 2 4", 4, 1);
        c.due("1 has {0} alone", c.x.known(0, 1, 99, 0), 1).due("{0}", c.x.rowAt(0, 1, 99, 0), 1);
        c.due("2 has {0, 1} alone", c.x.known(0, 2, 99, 0), 1).due("{0, 1}", c.x.rowAt(0, 2, 99, 0), 3);
        StringBuilder chain = new StringBuilder("talk 9 0 10");
        for (int p = 0; p < 9; p++) {
            chain.append(";talk ").append(p).append(' ').append(p + 1).append(' ').append(p + 1);
        }
        c.town(chain.toString(), 10).due("nine mouths", c.x.rowAt(0, 9, 9, 0), 511).due("has", c.x.has(0, 9), 9);
        c.due("shortest", c.x.known(0, 9, 99, 1), 9).due("0 is first", c.x.known(0, 0, 99, 0), 0);
        c.due("way", c.x.way(0, 9, 511, 8), 9).due("not with himself", c.x.row(0, 9, 99, 1023), 0);
    }

    private static void hours() {
        Check c = Sentence.told("II", "HOUR by HOUR, from 1 to 99, the TALKS of that HOUR by their numbers:",
                "talk 1 2 2;talk 0 1 1;talk 2 3 98;talk 3 4 99;talk 4 5 99", 5, 1);
        int[] due = {0, 1, 2, 98, 99, -2};
        for (int p = 0; p < due.length; p++) {
            c.due("has " + p, c.x.has(0, p), due[p]);
        }
        c.due("at 0", c.x.spread(0, 0, 1), 1).due("at 1", c.x.spread(0, 1, 1), 2).due("at 98", c.x.spread(0, 98, 1), 4);
        c.due("at 99", c.x.spread(0, 99, 1), 5);
    }

    private static void whoTells() {
        Check c = Sentence.told("II", "who is not SILENT, who is FIRST or has a ROW (by an HOUR ahead of this one), tells,",
                "talk 0 1 5;talk 1 2 4;talk 1 2 5;talk 1 2 6;talk 0 3 1", 5, 1);
        int[] due = {1, 0, 0, 1, 1};
        for (int t = 0; t < due.length; t++) {
            c.due("tells " + t, c.x.tells(0, t), due[t]);
        }
        c.due("2 has it from 6 on", c.x.has(0, 2), 6);
        c.x.first(3);
        for (int t = 0; t < due.length; t++) {
            c.due("both first, tells " + t, c.x.tells(0, t), 1);
        }
        c.x.silent(2);
        c.due("silent", c.x.tells(0, 3), 0).due("not silent", c.x.tells(0, 0), 1);
        c.x.first(0);
        for (int t = 0; t < due.length; t++) {
            c.due("nobody first, tells " + t, c.x.tells(0, t), 0);
        }
    }

    private static void laws() {
        String quote = "if no hush TEST holds, and some tell TEST, or there is none;";
        String[] laws = {"hush 1=2", "hush 1=1", "hush 1=2;hush 1=1", "hush 1=1;hush 1=2", "tell 1=1", "tell 1=2",
            "tell 1=2;tell 1=1", "tell 1=1;tell 1=2", "tell 1=2;tell 1=2", "tell 1=1;hush 1=1", "hush 1=1;tell 1=1",
            "hush 1=2;tell 1=1", "hush 1=2;tell 1=2", "tell 1=2;hush 1=2;tell 1=1"};
        int[] due = {1, 0, 0, 0, 1, 0, 1, 1, 0, 0, 0, 1, 0, 1};
        for (int i = 0; i < laws.length; i++) {
            Check c = Sentence.of("II", quote);
            c.town("talk 0 1 1", 1).law(laws[i], 0);
            c.x.first(1);
            c.due("by '" + laws[i] + "'", c.x.tells(0, 0), due[i]).due("he has it", c.x.has(0, 1), due[i] == 1 ? 1 : -2);
        }
    }

    private static void hears() {
        String quote = "if the other one HEARS him (he is not deaf in that HOUR, from and till counted, and not too proud for the teller),";
        Check c = Sentence.told("II", quote, "need 1 1", 0, 1);
        for (int hour = 4; hour <= 9; hour++) {
            c.town("deaf 1 5 8;talk 0 1 " + hour, 1).due("at " + hour, c.x.has(0, 1), hour < 5 || hour > 8 ? hour : -2);
            c.due("it is told", c.x.tells(0, 0), 1);
        }
        c.town("deaf 1 0 1;talk 0 1 1", 1).due("at 1", c.x.has(0, 1), -2);
        c.town("deaf 1 0 0;talk 0 1 1", 1).due("deaf at 0", c.x.has(0, 1), 1);
        c.town("deaf 1 99 99;talk 0 1 99", 1).due("at 99", c.x.has(0, 1), -2);
        c.town("deaf 1 98 98;talk 0 1 99", 1).due("deaf at 98", c.x.has(0, 1), 99);
        c.town("deaf 0 1 99;talk 0 1 5", 1).due("the teller is deaf", c.x.has(0, 1), 5);
        c.town("deaf 1 5 5;deaf 1 7 7;talk 0 1 6", 1).due("between", c.x.has(0, 1), 6);
        c.town("proud 1 0;talk 0 1 5", 1).due("proud", c.x.has(0, 1), -2);
        c.town("proud 0 1;talk 0 1 5", 1).due("the teller is proud", c.x.has(0, 1), 5);
        c.town("proud 1 2;talk 0 1 5", 1).due("proud of another one", c.x.has(0, 1), 5);
        c.town("proud 2 0;talk 0 1 4;talk 1 2 5", 2).due("by another mouth", c.x.rowAt(0, 2, 5, 0), 3);
    }

    private static void firstHearer() {
        Check c = Sentence.told("II", "and is no FIRST one, he has:", "talk 0 1 1;talk 1 2 2", 2, 3);
        c.due("1 has no row", c.x.known(0, 1, 99, 0), 0).due("1 from hour 0", c.x.has(0, 1), 0);
        c.due("2 has {1} alone", c.x.known(0, 2, 99, 0), 1).due("{1}", c.x.row(0, 2, 2, 2), 1);
        c.due("it counts as told", c.x.tells(0, 0), 1);
        c.x.first(1);
        c.due("no first one: he has one", c.x.known(0, 1, 99, 0), 1).due("{0, 1}", c.x.row(0, 2, 2, 3), 1);
    }

    private static void rowOfFirst() {
        Check c = Sentence.told("II", "of one who is FIRST the ROW of him alone;", "talk 0 1 1;talk 9 1 1;talk 9 0 1", 3, 513);
        c.due("{0}", c.x.rowAt(0, 1, 1, 0), 1).due("{9}", c.x.rowAt(0, 1, 1, 1), 512).due("no more", c.x.rowAt(0, 1, 1, 2), -2);
        c.due("{0, 9}", c.x.row(0, 1, 1, 513), 0);
    }

    private static void rowsPassedOn() {
        String quote = "of each ROW of the teller (by an HOUR ahead of this one) in which the hearer is not, the ROW of these and the teller.";
        // 3 has {0, 1} and {5} from 3 on, {0, 2} from 4 on.
        Check c = Sentence.told("II", quote, "talk 0 1 1;talk 0 2 1;talk 1 3 3;talk 5 3 3;talk 2 3 4;talk 3 4 4;talk 3 6 5;"
                + "talk 3 1 6;talk 3 7 3", 9, 33);
        int[][] due = {{11, 40, -2}, {11, 13, 40, -2}, {1, 13, 40, -2}, {-2}};
        int[] people = {4, 6, 1, 7};
        for (int i = 0; i < people.length; i++) {
            for (int k = 0; k < due[i].length; k++) {
                c.due("row " + k + " of " + people[i], c.x.rowAt(0, people[i], 99, k), due[i][k]);
            }
        }
    }

    private static void wordsAhead() {
        Check c = Sentence.of("II", "(WORDS as by HOURS ahead of this one.");
        String town = "need 3 1;talk 0 3 4;talk 1 3 5;talk 3 4 5;talk 3 4 6;talk 5 3 4;talk 5 3 5";
        String[] facts = {"from=3 and mouths=1", "from=3 and rows=1", "from=3 and believes=1", "from=5 and knows=0",
            "from=3 and shortest=1"};
        int[][] due = {{0, 0, 1, 0, 0, 0}, {0, 0, 1, 0, 0, 0}, {0, 0, 1, 1, 0, 0}, {0, 0, 0, 0, 1, 0}, {0, 0, 1, 1, 0, 0}};
        for (int i = 0; i < facts.length; i++) {
            Check d = new Check(c.name());
            // 5 tells only where it is asked, so that 3 hears 0 at 4 and 1 at 5.
            d.town(town, 6).law("tell from<2;tell " + facts[i], 0);
            d.x.first(35);
            for (int t = 2; t < 6; t++) {
                d.due("talk " + t + " by " + facts[i], d.x.tells(0, t), due[i][t]);
            }
        }
    }

    /** What 0, who sees it, has heard is of this town, not of the one asked about ahead of it. */
    private static void wordsAnew() {
        Check c = Sentence.of("II", "(WORDS as by HOURS ahead of this one.");
        c.town("talk 1 0 1;talk 0 2 2", 2).law("tell from=1;tell mouths=0", 0);
        c.x.first(3);
        for (int i = 0; i < 2; i++) {
            c.due("0 has heard 1", c.x.tells(0, 1), 0);
            c.x.silent(2);
            c.due("1 is silent", c.x.tells(0, 1), 1);
            c.x.silent(0);
        }
    }

    private static void noRowsOfFirst() {
        Check c = Sentence.told("II", "A FIRST one has no ROWS.)", "talk 0 1 1;talk 2 1 2;talk 1 3 3", 3, 7);
        c.due("rows", c.x.known(0, 1, 99, 0), 0).due("shortest", c.x.known(0, 1, 99, 1), 0);
        c.due("gate", c.x.known(0, 1, 99, 2), -2).due("part", c.x.known(0, 1, 99, 3), -2);
        c.due("row", c.x.row(0, 1, 99, 1), 0).due("rowAt", c.x.rowAt(0, 1, 99, 0), -2);
        c.due("mouths", c.x.mouths(0, 1, 99, 0), 0).due("apart", c.x.apart(0, 1, 99), 0).due("way", c.x.way(0, 1, 1, 0), -2);
        c.due("has", c.x.has(0, 1), 0).due("he believes it", c.x.believes(0, 1), 0).due("no doubt", c.x.doubts(0, 99), 0);
    }

    private static void rowStays() {
        Check c = Sentence.told("II", "A ROW he has already stays from the HOUR he had it first.",
                "talk 0 1 7;talk 0 1 3;talk 0 1 9", 3, 1);
        c.due("at 2", c.x.row(0, 1, 2, 1), 0).due("at 3", c.x.row(0, 1, 3, 1), 1).due("at 7", c.x.row(0, 1, 7, 1), 1);
        c.due("at 99", c.x.row(0, 1, 99, 1), 1).due("has", c.x.has(0, 1), 3).due("rows", c.x.known(0, 1, 99, 0), 1);
        c.due("the way ends at 3", c.x.way(0, 1, 1, 0), 1);
    }

    private static void believesBehind() {
        String quote = "Behind an HOUR: who has so many ROWS as he needs no two of which have a mouth in common, "
                + "believes it from that HOUR on.";
        Check c = Sentence.told("II", quote, "need 9 1;talk 0 9 2;talk 1 9 4;talk 2 9 6", 3, 7);
        c.due("one", c.x.believes(0, 9), 2).due("at 1", c.x.spread(0, 1, 0), 3).due("at 2", c.x.spread(0, 2, 0), 4);
        c.town("need 9 2;talk 0 9 2;talk 1 9 4;talk 2 9 6", 3).due("two", c.x.believes(0, 9), 4);
        c.town("need 9 3;talk 0 9 2;talk 1 9 4;talk 2 9 6", 3).due("three", c.x.believes(0, 9), 6);
        c.town("need 9 3;talk 0 9 2;talk 1 9 4", 2).due("two of three", c.x.believes(0, 9), -2);
        c.town("need 9 2;talk 0 9 2", 1).due("one of two", c.x.believes(0, 9), -2);
        c.town("need 9 2;talk 0 9 3;talk 1 9 3", 2).due("both at once", c.x.believes(0, 9), 3);
        c.x.first(1);
        c.town("talk 0 1 1;talk 0 2 1;talk 1 9 2;talk 2 9 2;talk 0 9 3", 5).due("0 is in all", c.x.believes(0, 9), -2);
        c.due("he has three rows", c.x.known(0, 9, 99, 0), 3);
        c.x.first(17);
        // {0, 1}, {0, 2}, {4, 2}: the first and the last part.
        c.town("talk 0 1 1;talk 0 2 1;talk 1 9 2;talk 2 9 2;talk 4 2 3;talk 2 9 4", 6);
        c.due("behind 2 they don't", c.x.apart(0, 9, 3), 1).due("behind 4 they do", c.x.believes(0, 9), 4);
        c.town("need 9 3;talk 0 1 1;talk 0 2 1;talk 1 9 2;talk 2 9 2;talk 4 2 3;talk 2 9 4", 6);
        c.due("three of which two part", c.x.believes(0, 9), -2).due("rows", c.x.known(0, 9, 99, 0), 3);
    }

    private static void knownBehind() {
        Check c = Sentence.told("II", "KNOWN at an HOUR: all as behind it.", "talk 0 1 1;talk 1 2 2;talk 3 2 99", 3, 9);
        int[][] due = {{0, 0}, {1, 0}, {1, 1}, {1, 1}, {1, 2}};
        int[] hours = {0, 1, 2, 98, 99};
        for (int i = 0; i < hours.length; i++) {
            c.due("1 at " + hours[i], c.x.known(0, 1, hours[i], 0), due[i][0]);
            c.due("2 at " + hours[i], c.x.known(0, 2, hours[i], 0), due[i][1]);
        }
    }

    private static void parts(Check c, int person, int hour, int... due) {
        for (int k = 0; k < 3; k++) {
            c.due("part " + k + " of " + person + " at " + hour, c.x.known(0, person, hour, 3 + k), due[k]);
        }
    }

    private static void part() {
        String quote = "PART of one at an HOUR: of so many ROWS as he needs without a common mouth the first (the ROWS as numbers, "
                + "bits of PEOPLE: the least first ROW, then the least second, then the third; each above the one ahead).";
        // 9 has {0}, {1, 2}, {1, 3} and {2, 5}: of three the second is not the least beside {0}.
        String rows = "talk 0 9 4;talk 1 2 1;talk 5 2 1;talk 1 3 1;talk 2 9 3;talk 3 9 5";
        Check c = Sentence.told("II", quote, "need 9 3;" + rows, 6, 35);
        parts(c, 9, 99, 1, 10, 36);
        parts(c, 9, 4, -2, -2, -2);
        c.town("need 9 2;" + rows, 6);
        parts(c, 9, 3, -2, -2, -2);
        parts(c, 9, 4, 1, 6, -2);
        parts(c, 9, 99, 1, 6, -2);
        c.town("need 9 1;" + rows, 6);
        parts(c, 9, 2, -2, -2, -2);
        parts(c, 9, 3, 6, -2, -2);
        parts(c, 9, 4, 1, -2, -2);
        // Without {0} the least row is not in the part: {1, 2} has a mouth in common with both others.
        c.town("need 9 2;talk 1 2 1;talk 5 2 1;talk 1 3 1;talk 2 9 3;talk 3 9 5", 5);
        parts(c, 9, 99, 10, 36, -2);
        c.due("the least row", c.x.rowAt(0, 9, 99, 0), 6);
        c.x.first(0);
        parts(c, 9, 99, -2, -2, -2);
    }

    private static void gate() {
        String quote = "GATE of one: the least mouth that all his ROWS have in common (none, if he has no ROWS, or there is no such mouth).";
        Check c = Sentence.told("II", quote, "talk 8 7 1;talk 7 9 2;talk 7 6 2;talk 6 9 3;talk 0 9 4", 5, 256);
        c.due("no rows", c.x.known(0, 9, 1, 2), -2).due("of {7, 8}", c.x.known(0, 9, 2, 2), 7);
        c.due("of {6, 7, 8}, too", c.x.known(0, 9, 3, 2), 7).due("6 has {7, 8}", c.x.known(0, 6, 2, 2), 7);
        c.due("of {8}", c.x.known(0, 7, 1, 2), 8);
        c.x.first(257);
        c.due("of {0}, too", c.x.known(0, 9, 4, 2), -2).due("ahead of it", c.x.known(0, 9, 3, 2), 7);
        c.due("nobody told him", c.x.known(0, 5, 99, 2), -2);
        c.town("talk 0 9 4", 1).due("mouth 0", c.x.known(0, 9, 4, 2), 0);
    }
}
