/** The edges of what is looked for by trying: promises 18 to 21, 27, 28, 34, 35, 37, and their terms in III and IV. */
final class SeekEdges {
    private static final int MAX = Integer.MAX_VALUE;
    private static final String ONE_TALK = "need 1 1;talk 0 1 7";

    private SeekEdges() {
    }

    static void run() {
        asTold();
        fewestInPlace();
        fewest();
        silence();
        silenceOfFew();
        crier();
        letter();
        letterOfHours();
        byBook();
        lies();
        draws();
        drawOfEachBound();
        tried();
        triedTogether();
        moved();
        movedHours();
        twoSayings();
        twoWhats();
    }

    private static void asTold() {
        Check c = Sentence.of("III", "(By a LAW, of TALKS, FIRST and SILENT ones as told, but as said.)");
        c.town("need 2 1;need 3 1;talk 0 2 1;talk 2 3 2", 2).law("tell 1=1", 0).law("hush from=2", 1);
        c.x.first(1);
        seek(c, 0, 1, 4, 3, 0, 2, 1);
        seek(c, 1, -2, 0, 2, 3, -2, 0);
        c.x.silent(4);
        seek(c, 0, -2, 0, 2, 3, -2, 0);
        c.x.silent(0);
        c.x.first(8);
        seek(c, 0, 1, -1, 3, 0, 0, 1);
        c.x.first(0);
        seek(c, 0, 1, 0, 3, -2, -2, 0);
    }

    /** What is looked for about 3, who has it of 2, who has it of 0. */
    private static void seek(Check c, int law, int... due) {
        c.due("fewest", c.x.fewest(law, 1, 8, 99), due[0]).due("silence", c.x.silence(law, 3), due[1]);
        c.due("crier", c.x.crier(law, 99, 1), due[2]).due("letter", c.x.letter(law, 3, 5), due[3]);
        c.due("moved", c.x.moved(law, 1, 3, 1), due[4]).due("tried", c.x.tried(law, 1, 0, 3, 99, 0), due[5]);
    }

    private static void fewestInPlace() {
        String quote = "FEWEST: of all sets of a told set of PEOPLE (8 at most), as FIRST ones in place of those told,";
        Check c = Sentence.told("III", quote, "need 9 1;talk 0 9 3", 1, 1);
        c.due("those told are not first", c.x.fewest(0, 2, 512, 99), -2).due("0 is", c.x.fewest(0, 3, 512, 99), 1);
        c.due("all stays", c.x.count(4), 1);
        c.due("eight of eight", c.x.fewest(0, 255, 255, 0), 255).due("seven of eight", c.x.fewest(0, 255, 254, 0), 254);
        c.due("others", c.x.fewest(0, 1020, 1020, 0), 1020).due("one of one", c.x.fewest(0, 512, 512, 0), 512);
        c.due("one of one", c.x.fewest(0, 1, 1, 0), 1).due("not of these", c.x.fewest(0, 255, 256, 99), -2);
        c.due("nine of people", c.x.fewest(0, 511, 1, 0), -1).due("none of people", c.x.fewest(0, 0, 1, 0), -1);
    }

    private static void fewest() {
        Check c = Sentence.told("III", "the one with the fewest by which told PEOPLE all believe it behind an HOUR; of several the least.",
                "talk 0 6 1;talk 1 6 2;talk 2 6 99;need 7 1;talk 6 7 3", 4, 1023);
        int[][] due = {{7, 64, 1, -2}, {7, 64, 2, 3}, {7, 64, 99, 3}, {6, 64, 98, -2}, {6, 64, 99, 6}, {5, 64, 99, 5}, {3, 64, 2, 3},
            {67, 64, 99, 64}, {67, 64, 0, 64}, {7, 128, 3, 1}, {7, 128, 2, -2}, {7, 192, 3, 3}, {71, 192, 3, 64}, {71, 192, 2, -2},
            {7, 0, 0, 0}, {255, 0, 99, 0}, {7, 7, 0, 7}, {7, 5, 99, 5}, {255, 1023, 99, -2}, {7, 65, 99, 3}, {6, 65, 99, -2}};
        for (int[] d : due) {
            c.due("fewest of " + d[0] + " for " + d[1] + " at " + d[2], c.x.fewest(0, d[0], d[1], d[2]), d[3]);
        }
        c = Sentence.told("18", "FEWEST; -2: none;", "need 9 3;talk 0 9 1;talk 1 9 1;talk 2 9 1", 3, 0);
        c.due("three", c.x.fewest(0, 15, 512, 1), 7).due("none", c.x.fewest(0, 11, 512, 99), -2).due("at 0", c.x.fewest(0, 15, 512, 0), -2);
        c.due("nobody is asked for", c.x.fewest(0, 15, 0, 0), 0);
    }

    private static void silence() {
        String quote = "SILENCE: the fewest PEOPLE (0 to 3, none of them FIRST) who, SILENT as well, keep one (not FIRST) from "
                + "believing it till HOUR 99; of several the least set.";
        Check c = Sentence.told("III", quote, "need 4 1;talk 0 1 1;talk 0 2 1;talk 1 9 2;talk 2 9 2;talk 9 4 99", 5, 1);
        c.due("fewer before less", c.x.silence(0, 4), 512).due("at the last hour", c.x.believes(0, 4), 99);
        c.town("need 4 1;talk 0 9 1;talk 9 3 2;talk 3 4 3", 3).due("the least", c.x.silence(0, 4), 8);
        c.town("need 4 1;talk 0 9 1;talk 9 3 2;talk 3 4 3;talk 9 4 4", 4).due("behind it", c.x.silence(0, 4), 512);
        c.town("need 4 1;talk 0 1 1;talk 0 2 1;talk 1 4 2;talk 2 4 2", 4).due("two", c.x.silence(0, 4), 6);
        c.x.silent(2);
        c.due("one is silent", c.x.silence(0, 4), 4);
        c.x.silent(6);
        c.due("both are", c.x.silence(0, 4), 0).due("set", c.x.count(5), 6);
        c.x.silent(0);
        c.town("need 4 1;talk 0 4 1", 1).due("first ones are not silenced", c.x.silence(0, 4), -2);
        c.x.first(16);
        c.due("not of a first one", c.x.silence(0, 4), -1).due("of another one", c.x.silence(0, 0), 0);
    }

    private static void silenceOfFew() {
        String three = "need 9 1;talk 0 1 1;talk 0 2 1;talk 0 8 1;talk 1 9 2;talk 2 9 2;talk 8 9 2";
        Check c = Sentence.told("19", "SILENCE; -2: not with three;", three, 6, 1);
        c.due("three", c.x.silence(0, 9), 2 + 4 + 256);
        c.town(three + ";talk 0 5 1;talk 5 9 99", 8).due("not with three", c.x.silence(0, 9), -2);
        c.x.silent(32);
        c.due("with three more", c.x.silence(0, 9), 2 + 4 + 256);
        c.x.first(0);
        c.due("with none", c.x.silence(0, 9), 0);
    }

    private static void crier() {
        String quote = "CRIER: of PEOPLE, each as the only FIRST one, that by whom most (himself, too) believe it behind an HOUR, of several the least.";
        Check c = Sentence.told("III", quote, "need 1 1;need 2 1;talk 7 1 1;talk 5 1 1;talk 7 2 99;talk 3 8 1;talk 4 8 1", 5, 24);
        int[][] due = {{0, 0, 1}, {1, 5, 2}, {98, 5, 2}, {99, 7, 3}};
        for (int[] d : due) {
            c.due("who at " + d[0], c.x.crier(0, d[0], 0), d[1]).due("how many at " + d[0], c.x.crier(0, d[0], 1), d[2]);
        }
        c.due("first stays", c.x.count(4), 24);
        c.x.silent(128);
        c.due("7 is silent", c.x.crier(0, 99, 0), 5);
        c.x.silent(1023);
        c.due("himself alone", c.x.crier(0, 99, 1), 1).due("the least", c.x.crier(0, 99, 0), 0);
        StringBuilder all = new StringBuilder();
        for (int p = 0; p < 9; p++) {
            all.append("need ").append(p).append(" 1;talk 9 ").append(p).append(" 1;");
        }
        c = Sentence.told("20", "CRIER what 0: who, 1: how many;", all + "need 9 3", 9, 0);
        c.due("who", c.x.crier(0, 1, 0), 9).due("all", c.x.crier(0, 1, 1), 10).due("at 0", c.x.crier(0, 0, 0), 0);
        c.due("without talks", c.x.crier(0, 0, 1), 1);
    }

    private static void letter() {
        Check c = Sentence.told("21", "LETTER: 16 * who + to whom; 0: he believes it without; -2: none would;", "need 8 1;need 1 1", 0, 512);
        c.due("9 to 8", c.x.letter(0, 8, 1), 152).due("9 to 1", c.x.letter(0, 1, 99), 145).due("first", c.x.letter(0, 9, 1), 0);
        c.due("nobody has two", c.x.letter(0, 7, 1), -2);
        c.x.first(513);
        c.due("the least who", c.x.letter(0, 8, 1), 8).due("0 to 1", c.x.letter(0, 1, 1), 1);
        c.x.talk(9, 8, 99);
        c.due("without", c.x.letter(0, 8, 1), 0);
        c.x.first(0);
        c.due("nobody sees it", c.x.letter(0, 8, 1), -2);
        c = Sentence.told("21", "(Who 0 tells nobody 0, so 0 is free.)", "need 0 1", 0, 2);
        c.due("1 to 0", c.x.letter(0, 0, 1), 16);
        c.x.first(1);
        c.due("0 himself", c.x.letter(0, 0, 1), 0);
    }

    private static void letterOfHours() {
        String quote = "LETTER: of all two unlike PEOPLE (who, to whom) the first (the least who, then to whom) of whom one more TALK at an "
                + "HOUR (behind all others of that HOUR) would let one believe it by HOUR 99; 0 needed: he does without.";
        Check c = Sentence.told("III", quote, "need 9 1;talk 1 9 5;talk 2 9 99", 2, 1);
        int[][] due = {{1, 1}, {4, 1}, {5, 2}, {98, 2}, {99, 9}};
        for (int[] d : due) {
            c.due("at " + d[0], c.x.letter(0, 9, d[0]), d[1]);
        }
        c.town("need 9 1;talk 1 9 5;talk 2 9 99;deaf 9 1 99", 2).due("deaf", c.x.letter(0, 9, 50), -2);
        c.town("talk 0 9 5", 1).due("rows by 0 alone", c.x.letter(0, 9, 50), -2);
        c.x.first(9);
        c.due("3 to 9", c.x.letter(0, 9, 50), 57);
        c.due("talks", c.x.count(0), 1);
        c.town(TownEdges.many("talk8 7 1", 30), 30).due("of thirty talks", c.x.letter(0, 9, 50), -2);
        c.town("need 9 1;" + TownEdges.many("talk8 7 1", 30), 30).due("a 31st", c.x.letter(0, 9, 50), 9);
        c.due("talks", c.x.count(0), 30);
        c.x.silent(1);
        c.due("0 is silent", c.x.letter(0, 9, 50), 57);
    }

    private static void enter(Check c, int[]... entries) {
        c.x.entry(-1, 0, 0);
        for (int[] e : entries) {
            c.x.entry(e[0], e[1], e[2]);
        }
    }

    private static int[] e(int who, int to, int hour) {
        return new int[] {who, to, hour};
    }

    private static void byBook() {
        String quote = "BY THE BOOK: who would believe it from when, if TALKS were the ENTRIES that can be (by their order), FIRST ones the SEERS.";
        Check c = Sentence.told("III", quote, "need 1 1;talk 0 1 1;talk 1 2 2;talk 3 2 99;talk 4 1 1;deaf 5 3 3;talk 0 5 3", 5, 16);
        c.due("an empty book", c.x.byBook(0, 4), -2);
        enter(c, e(3, 2, 99), e(1, 2, 2), e(0, 1, 1), e(0, 5, 3), e(0, 1, 1), e(7, 6, 5));
        int[] due = {0, 1, 99, 0, -2, -2, -2, -2, -2, -2};
        for (int p = 0; p < 10; p++) {
            c.due("byBook " + p, c.x.byBook(0, p), due[p]);
        }
        c.due("first ones, talks stay", c.x.count(4) + c.x.count(0), 21);
        // 0 told 6 nothing by the book, whatever was asked ahead of it.
        c.town("need 1 1;need 6 1;talk 0 6 2;talk 0 1 1", 2);
        enter(c, e(0, 1, 1));
        c.due("a letter of 4", c.x.letter(0, 6, 5), 70).due("moved", c.x.moved(0, 0, 6, 0), -2);
        c.due("6 by the book", c.x.byBook(0, 6), -2).due("1 by the book", c.x.byBook(0, 1), 1);
        c.x.first(1);
        c.due("6 by the talks", c.x.believes(0, 6), 2).due("6 by the book", c.x.byBook(0, 6), -2);
        c.due("moved", c.x.moved(0, 1, 1, 0), 1).due("1 by the book", c.x.byBook(0, 1), 1).due("6", c.x.byBook(0, 6), -2);
        c = Sentence.told("27", "BY THE BOOK, the HOUR from which one believes it; -2: never;", "need 1 1;talk 0 1 99", 1, 1);
        c.due("without entries", c.x.byBook(0, 1), -2).due("first ones are not looked at", c.x.byBook(0, 0), -2);
        c.x.entry(0, 1, 99);
        c.due("at 99", c.x.byBook(0, 1), 99).due("the seer", c.x.byBook(0, 0), 0);
        c.x.silent(1);
        c.due("it can't be", c.x.byBook(0, 1), -2).due("nor he", c.x.byBook(0, 0), -2);
        c.x.silent(0);
        c.law("hush 1=1", 1).due("by a law", c.x.byBook(1, 1), -2).due("the seer", c.x.byBook(1, 0), 0);
    }

    private static void lies() {
        String quote = "LIES: ENTRIES that can be, but whose teller (by TALKS and FIRST ones as told) is no FIRST one and has no ROW by an HOUR ahead of it.";
        Check c = Sentence.told("III", quote, "talk 0 1 5;talk 1 2 4;talk 1 2 5;talk 1 2 6;talk 3 4 1;deaf 7 1 99;talk 3 7 1", 6, 1);
        enter(c, e(0, 1, 5), e(1, 2, 4), e(1, 2, 5), e(1, 2, 6), e(3, 4, 1), e(3, 7, 1), e(3, 4, 2), e(3, 4, 1));
        c.due("1 at 4 and at 5, and 3", c.x.lies(0), 2 + 4 + 16);
        c.x.first(9);
        c.due("3 is first", c.x.lies(0), 2 + 4);
        c.x.first(0);
        c.due("nobody is", c.x.lies(0), 1 + 2 + 4 + 8 + 16);
        c.x.silent(8);
        c.due("3 is silent, and can't have told", c.x.lies(0), 1 + 2 + 4 + 8);
        c = Sentence.told("28", "LIES, as bits (ENTRIES);", "talk 0 1 99", 1, 0);
        c.due("none", c.x.lies(0), 0);
        for (int i = 1; i < 20; i++) {
            c.x.entry(0, 1, i);
        }
        c.due("none that can be", c.x.lies(0), 0).due("the last", c.x.entry(0, 1, 99), 20).due("bit 19", c.x.lies(0), 524288);
        c.x.first(1);
        c.due("no lie", c.x.lies(0), 0);
    }

    private static void draws() {
        Check c = Sentence.told("III", "DRAWS: x (0 to 2147483647; 0 at first) becomes x * 1103515245 + 12345, of 2147483648 the rest; "
                + "a DRAW is x / 65536.", ONE_TALK, 1, 1);
        // The first draw's rest of 8 from each x: the bound above it leaves the talk out, the bound of it does not.
        int[][] due = {{0, 0}, {1, 6}, {2, 4}, {3, 3}, {4, 1}, {5, 7}, {8, 2}, {11, 5}, {12345, 4}, {65535, 6}, {65536, 5},
            {1 << 30, 0}, {MAX - 1, 3}, {MAX, 1}, {230538014, 7}, {286434947, 7}, {576240414, 6}, {2032319262, 0}, {1742513795, 1}};
        c.due("x at first", c.x.count(6), 0);
        for (int[] d : due) {
            c.x.seed(d[0]);
            c.due("x " + d[0] + ", not left out", c.x.tried(0, 1, d[1], 1, 99, 0), 1);
            c.due("x " + d[0] + ", left out", c.x.tried(0, 1, d[1] + 1, 1, 99, 0), 0);
            c.due("x stays", c.x.count(6), d[0]);
        }
    }

    private static void drawOfEachBound() {
        String quote = "TRIED m times (1 to 20) by a LAW: each time each TALK, by its number, is left out if a DRAW mod 8 is below a bound (0 to 8):";
        Check c = Sentence.told("III", quote, ONE_TALK, 1, 1);
        // From 0 on the rests are 0 4 4 5 2 7 5 5 2 2 5 4 3 6 7 3 0 1 4 5.
        int[] told = {20, 18, 17, 14, 12, 8, 3, 2, 0};
        for (int bound = 0; bound <= 8; bound++) {
            c.due("bound " + bound, c.x.tried(0, 20, bound, 1, 99, 0), told[bound]);
        }
        int[] times = {0, 1, 2, 3, 3, 4, 5, 6, 6, 6, 7, 8, 8, 9, 10, 10, 10, 10, 11, 12};
        for (int m = 1; m <= 20; m++) {
            c.due("m " + m, c.x.tried(0, m, 4, 1, 99, 0), times[m - 1]);
        }
        // Three talks draw by their numbers, not by their hours: 5 has 0 5 5 2, 6 has 4 2 5 5, 7 has 4 7 2 4.
        c.town("need 5 1;need 6 1;need 7 1;talk 0 5 9;talk 0 6 5;talk 0 7 1", 3);
        int[][] due = {{5, 0}, {6, 1}, {7, 1}};
        for (int[] d : due) {
            c.due("one time, " + d[0], c.x.tried(0, 1, 4, d[0], 99, 0), d[1]);
        }
        int[][] more = {{5, 2}, {6, 3}, {7, 3}};
        for (int[] d : more) {
            c.due("four times, " + d[0], c.x.tried(0, 4, 4, d[0], 99, 0), d[1]);
        }
    }

    private static void tried() {
        String quote = "how often one believes it by an HOUR, how many believe it together (x goes on; behind it x is as it was).";
        Check c = Sentence.told("III", quote, ONE_TALK, 1, 1);
        c.due("by 6", c.x.tried(0, 20, 4, 1, 6, 0), 0).due("by 7", c.x.tried(0, 20, 4, 1, 7, 0), 12);
        c.due("by 0", c.x.tried(0, 20, 4, 0, 0, 0), 20).due("together by 6", c.x.tried(0, 20, 4, 1, 6, 1), 20);
        c.due("together by 7", c.x.tried(0, 20, 4, 1, 7, 1), 32).due("x is as it was", c.x.count(6), 0);
        c.due("the same again", c.x.tried(0, 20, 4, 1, 7, 1), 32);
        c.x.seed(12345);
        c.due("x goes on", c.x.tried(0, 19, 4, 1, 7, 0), 12).due("x is as it was", c.x.seed(0), 12345);
        for (int t = 0; t < 30; t++) {
            c.x.talk(8, 7, 50);
        }
        c.due("thirty talks, twenty times", c.x.tried(0, 20, 8, 0, 99, 0), 20).due("x is as it was", c.x.count(6), 0);
    }

    private static void triedTogether() {
        Check c = Sentence.told("37", "TRIED what 0: how often one believes it by an HOUR, 1: how many believe it then, together;",
                "need 5 1;need 6 1;need 7 1;talk 0 5 9;talk 0 6 5;talk 0 7 1", 3, 1);
        c.due("at 0", c.x.tried(0, 4, 4, 5, 0, 1), 4).due("at 1", c.x.tried(0, 4, 4, 5, 1, 1), 7);
        c.due("at 5", c.x.tried(0, 4, 4, 5, 5, 1), 10).due("at 9", c.x.tried(0, 4, 4, 5, 9, 1), 12);
        c.due("all", c.x.tried(0, 20, 0, 5, 99, 1), 80).due("none but 0", c.x.tried(0, 20, 8, 5, 99, 1), 20);
        c.due("often", c.x.tried(0, 20, 0, 5, 99, 0), 20).due("never", c.x.tried(0, 20, 8, 5, 99, 0), 0);
        c.x.first(1023);
        c.due("the most", c.x.tried(0, 20, 8, 5, 0, 1), 200);
    }

    private static void moved() {
        Check c = Sentence.told("34", "MOVED what 0: the HOUR, 1: from which he believes it; -2: by none;",
                "need 1 1;need 2 1;talk 0 1 50;talk 1 2 50", 2, 1);
        int[][] due = {{0, 1, 1, 1}, {0, 2, 1, 50}, {1, 1, 1, 50}, {1, 2, 51, 51}, {0, 0, 1, 0}, {0, 3, -2, -2}};
        for (int[] d : due) {
            c.due("talk " + d[0] + " for " + d[1], c.x.moved(0, d[0], d[1], 0), d[2]);
            c.due("talk " + d[0] + " for " + d[1] + ", from", c.x.moved(0, d[0], d[1], 1), d[3]);
        }
        c.due("it stays", c.x.talks(0, 2), 50).due("it stays", c.x.talks(1, 2), 50);
    }

    private static void movedHours() {
        String quote = "MOVED: a TALK at some HOUR (1 to 99, its own, too; its number stays): that by which one believes it from the least "
                + "HOUR on, of several the least; and from which.";
        Check c = Sentence.of("IV", quote);
        c.town("need 1 1;talk 0 1 50;talk 3 1 60;talk 0 4 5", 3);
        c.x.first(9);
        c.law("tell hour=1 or from=3", 0).law("tell hour=99", 1).law("tell hour=50", 2).law("tell hour=0", 3);
        c.law("hush from=0 and hour<70", 4);
        int[][] due = {{0, 1, 1}, {1, 99, 99}, {2, 50, 50}, {3, -2, -2}, {4, 1, 60}};
        for (int[] d : due) {
            c.due("hour by law " + d[0], c.x.moved(d[0], 0, 1, 0), d[1]);
            c.due("from by law " + d[0], c.x.moved(d[0], 0, 1, 1), d[2]);
        }
        c.due("another talk: any hour will do", c.x.moved(4, 2, 1, 0), 1).due("from", c.x.moved(4, 2, 1, 1), 60);
    }

    private static void sayings(Check c, int other, int hour, int one, int another, int torn) {
        c.due("the one of " + other + " at " + hour, c.x.two(0, other, hour, 0), one);
        c.due("the other of " + other + " at " + hour, c.x.two(0, other, hour, 1), another);
        c.due("torn of " + other + " at " + hour, c.x.two(0, other, hour, 2), torn);
    }

    private static void twoSayings() {
        String quote = "TWO SAYINGS: one of the FIRST ones, another one of other FIRST ones: each believes that which he would believe from "
                + "an earlier HOUR on; of alike HOURS he is TORN.";
        Check c = Sentence.told("IV", quote, "need 2 1;need 3 1;need 4 1;need 5 1;talk 0 2 5;talk 1 2 6;talk 0 3 7;talk 1 3 7;talk 1 4 8;"
                + "talk 0 4 9;talk 0 5 99", 7, 1);
        sayings(c, 2, 0, 1, 2, 0);
        sayings(c, 2, 4, 1, 2, 0);
        sayings(c, 2, 5, 5, 2, 0);
        sayings(c, 2, 6, 5, 2, 0);
        sayings(c, 2, 7, 5, 2, 8);
        sayings(c, 2, 8, 5, 18, 8);
        sayings(c, 2, 98, 5, 18, 8);
        sayings(c, 2, 99, 37, 18, 8);
        c.due("first stays", c.x.count(4), 1);
    }

    private static void twoWhats() {
        String quote = "TWO SAYINGS (other FIRST ones 0 to 1023), as known at an HOUR, what 0: who believes the one, 1: the other, 2: TORN ones; as bits.";
        Check c = Sentence.told("35", quote, "need 2 1;talk 0 2 5", 1, 1);
        sayings(c, 0, 99, 5, 0, 0);
        sayings(c, 1, 99, 0, 0, 5);
        sayings(c, 1, 4, 0, 0, 1);
        sayings(c, 1023, 0, 0, 1022, 1);
        sayings(c, 4, 99, 1, 4, 0);
        c.x.first(0);
        sayings(c, 0, 99, 0, 0, 0);
        sayings(c, 1, 99, 0, 5, 0);
        sayings(c, 1023, 0, 0, 1023, 0);
        c.x.first(1023);
        sayings(c, 1023, 99, 0, 0, 1023);
        sayings(c, 0, 0, 1023, 0, 0);
    }
}
