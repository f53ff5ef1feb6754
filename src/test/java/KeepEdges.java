/** The edges of what is told and kept: promises 6 to 10, 22, 23, 36, 38 to 40, and the BOOK and IMAGES of III and IV. */
final class KeepEdges {
    private KeepEdges() {
    }

    private static final int MIN = Integer.MIN_VALUE;
    private static final int MAX = Integer.MAX_VALUE;

    static void run() {
        talk();
        talkRefused();
        talks();
        person();
        deafAndProud();
        first();
        silent();
        entry();
        entryRefused();
        entriesInOrder();
        canBe();
        toldTwice();
        seers();
        bookWhat();
        seed();
        count();
        image();
        back();
        imageHolds();
    }

    private static void talk() {
        Check c = Sentence.of("6", "One more TALK (behind all others): its number;");
        c.due("the first", c.x.talk(0, 9, 99), 0).due("earlier, and behind it", c.x.talk(9, 0, 1), 1);
        c.due("alike", c.x.talk(9, 0, 1), 2).due("hour", c.x.talks(0, 2), 99).due("hour", c.x.talks(1, 2), 1);
        c.town("talk 3 4 5;talk 4 5 6", 2).due("behind a town's", c.x.talk(5, 6, 7), 2).due("who", c.x.talks(2, 0), 5);
        for (int t = 3; t < 30; t++) {
            c.due("talk " + t, c.x.talk(t % 10, (t + 1) % 10, t), t);
        }
        c.due("who", c.x.talks(29, 0), 9).due("to", c.x.talks(29, 1), 0).due("hour", c.x.talks(29, 2), 29);
        c.due("talks", c.x.count(0), 30).due("the first stays", c.x.talks(0, 0), 3);
        c.law("tell 1=1", 0);
        c.x.first(512);
        c.due("it tells", c.x.tells(0, 29), 1);
    }

    private static void talkRefused() {
        Check c = Sentence.of("6", "NONE: there are 30, or something is not as told.");
        int[][] wrong = {{-1, 0, 1}, {10, 0, 1}, {0, -1, 1}, {0, 10, 1}, {0, 1, 0}, {0, 1, 100}, {0, 1, -1}, {0, 0, 1},
            {9, 9, 99}, {MIN, 1, 1}, {MAX, 1, 1}, {0, MIN, 1}, {0, MAX, 1}, {0, 1, MIN}, {0, 1, MAX}, {-1, -1, -1}};
        for (int[] w : wrong) {
            Twins.stays(c, Twins::lively, "talk(" + w[0] + ", " + w[1] + ", " + w[2] + ")",
                    x -> x.talk(w[0], w[1], w[2]), -1);
        }
        Twins.stays(c, x -> Twins.text(x, "talk 0 1 1"), "talk(0, 0, 0) without any", x -> x.talk(0, 0, 0), -1);
        Twins.stays(c, x -> {
            Twins.lively(x);
            for (int t = x.count(0); t < 30; t++) {
                x.talk(6, 7, t);
            }
        }, "a 31st", x -> x.talk(0, 1, 50), -1);
        c.town(TownEdges.many("talk0 1 1", 30), 30).due("a 31st", c.x.talk(0, 1, 1), -1).due("talks", c.x.count(0), 30);
        c.town(TownEdges.many("talk0 1 1", 29), 29).due("a 30th", c.x.talk(0, 1, 1), 29);
        c.due("a 31st", c.x.talk(0, 1, 1), -1);
    }

    private static void talks() {
        Check c = Sentence.of("7", "Of a TALK what 0: who, 1: to whom, 2: HOUR.");
        c.town("talk 0 9 1;talk 9 0 99;talk 4 5 50", 3);
        int[][] due = {{0, 9, 1}, {9, 0, 99}, {4, 5, 50}};
        for (int t = 0; t < 3; t++) {
            for (int what = 0; what < 3; what++) {
                c.due("talks(" + t + ", " + what + ")", c.x.talks(t, what), due[t][what]);
            }
        }
        c = Sentence.of("7", "NONE without these.");
        c.due("no talks", c.x.talks(0, 0), -1).town("talk 0 9 1;talk 9 0 99;talk 4 5 50", 3);
        c.due("talk 2", c.x.talks(2, 0), 4).due("talk 3", c.x.talks(3, 0), -1).due("talk -1", c.x.talks(-1, 0), -1);
        c.due("what 3", c.x.talks(0, 3), -1).due("what -1", c.x.talks(0, -1), -1).due("far", c.x.talks(MIN, 0), -1);
        c.due("far", c.x.talks(MAX, 0), -1).due("far", c.x.talks(0, MIN), -1).due("far", c.x.talks(0, MAX), -1);
        c.town("talk 1 2 3", 1).due("of the town there was", c.x.talks(1, 0), -1);
    }

    private static void person() {
        Check c = Sentence.of("8",
                "Of a person what 0: how many ROWS he needs, 1: 1 if he is FIRST, else 0, 2: 1 if he is SILENT, else 0;");
        c.town("need 0 1;need 9 3", 0);
        c.x.first(1);
        c.x.silent(512);
        int[][] due = {{1, 1, 0}, {2, 0, 0}, {3, 0, 1}};
        int[] people = {0, 5, 9};
        for (int i = 0; i < 3; i++) {
            for (int what = 0; what < 3; what++) {
                c.due("person(" + people[i] + ", " + what + ")", c.x.person(people[i], what), due[i][what]);
            }
        }
        c.x.first(512);
        c.x.silent(1);
        c.due("0 first", c.x.person(0, 1), 0).due("9 first", c.x.person(9, 1), 1);
        c.due("0 silent", c.x.person(0, 2), 1).due("9 silent", c.x.person(9, 2), 0);
        c = Sentence.of("8", "NONE without these.");
        for (int what : new int[] {-1, 3, 99, 210, MIN, MAX, -100, 299, 1000}) {
            c.due("what " + what, c.x.person(0, what), -1);
        }
        for (int what : new int[] {0, 1, 2, 100, 199, 200, 209}) {
            c.due("what " + what, c.x.person(9, what), what == 0 ? 2 : 0);
            c.due("nobody, what " + what, c.x.person(10, what), -1).due("nobody", c.x.person(-1, what), -1);
            c.due("nobody, what " + what, c.x.person(MIN, what), -1).due("nobody", c.x.person(MAX, what), -1);
        }
    }

    private static void deafAndProud() {
        Check c = Sentence.of("8", "100 and an HOUR (0 to 99): 1 if he is deaf then, else 0,");
        c.town("deaf 0 0 0;deaf 9 99 99;deaf 4 20 30;deaf 4 32 40", 0);
        c.due("0 at 0", c.x.person(0, 100), 1).due("0 at 1", c.x.person(0, 101), 0).due("99", c.x.person(0, 99), -1);
        c.due("9 at 99", c.x.person(9, 199), 1).due("9 at 98", c.x.person(9, 198), 0).due("0 at 99", c.x.person(0, 199), 0);
        int[] hours = {19, 20, 30, 31, 32, 40, 41};
        int[] due = {0, 1, 1, 0, 1, 1, 0};
        for (int i = 0; i < hours.length; i++) {
            c.due("4 at " + hours[i], c.x.person(4, 100 + hours[i]), due[i]);
        }
        c = Sentence.of("8", "200 and a person: 1 if he is too proud for that one, else 0.");
        c.town("proud 0 9;proud 9 0;proud 4 5;proud 4 6", 0);
        for (int p = 0; p < 10; p++) {
            for (int of = 0; of < 10; of++) {
                boolean proud = p == 0 && of == 9 || p == 9 && of == 0 || p == 4 && (of == 5 || of == 6);
                c.due(p + " of " + of, c.x.person(p, 200 + of), proud ? 1 : 0);
            }
        }
        c.due("210", c.x.person(0, 210), -1);
    }

    private static void first() {
        Check c = Sentence.of("9", "FIRST ones become a set (0 to 1023): what they were;");
        c.due("of none", c.x.first(0), 0).due("all", c.x.first(1023), 0).due("one", c.x.first(512), 1023);
        c.due("set", c.x.count(4), 512).due("none", c.x.first(0), 512).due("set", c.x.count(4), 0);
        c.due("silent stays", c.x.count(5), 0);
        c = Sentence.of("9", "NONE, and nothing happens, for others.");
        for (int set : new int[] {-1, 1024, MIN, MAX, -1024, 2047}) {
            Twins.stays(c, Twins::lively, "first(" + set + ")", x -> x.first(set), -1);
        }
    }

    private static void silent() {
        Check c = Sentence.of("10", "SILENT ones become a set: what they were;");
        c.due("of none", c.x.silent(0), 0).due("all", c.x.silent(1023), 0).due("one", c.x.silent(512), 1023);
        c.due("set", c.x.count(5), 512).due("none", c.x.silent(0), 512).due("set", c.x.count(5), 0);
        c.due("first stays", c.x.count(4), 0);
        c = Sentence.of("10", "NONE, and nothing happens, for others.");
        for (int set : new int[] {-1, 1024, MIN, MAX, -1024, 2047}) {
            Twins.stays(c, Twins::lively, "silent(" + set + ")", x -> x.silent(set), -1);
        }
    }

    private static void entry() {
        Check c = Sentence.of("22", "An ENTRY: how many there are");
        c.due("the first", c.x.entry(0, 9, 1), 1).due("the second", c.x.entry(9, 0, 99), 2);
        c.due("alike", c.x.entry(9, 0, 99), 3).due("no talk is needed", c.x.count(0), 0);
        for (int i = 4; i <= 20; i++) {
            c.due("entry " + i, c.x.entry(i % 10, (i + 1) % 10, i), i).due("entries", c.x.count(3), i);
        }
        c = Sentence.of("22", "(who NONE: none then, 0);");
        c.due("of none", c.x.entry(-1, 0, 1), 0);
        for (int i = 1; i <= 20; i++) {
            c.x.entry(0, 1, i);
        }
        c.due("of twenty", c.x.entry(-1, 0, 1), 0).due("entries", c.x.count(3), 0).due("all can", c.x.book(0), -2);
        c.due("entry", c.x.entry(0, 1, 5), 1).due("whatever else", c.x.entry(-1, -1, -1), 0);
        c.due("entry", c.x.entry(0, 1, 5), 1).due("whatever else", c.x.entry(-1, MAX, MIN), 0).due("none", c.x.count(3), 0);
    }

    private static void entryRefused() {
        Check c = Sentence.of("22", "-2, and nothing happens, for others, or if there are 20.");
        int[][] wrong = {{-2, 0, 1}, {10, 0, 1}, {0, -1, 1}, {0, 10, 1}, {0, 1, 0}, {0, 1, 100}, {0, 1, -1}, {0, 0, 1},
            {9, 9, 99}, {MIN, 1, 1}, {MAX, 1, 1}, {0, MIN, 1}, {0, MAX, 1}, {0, 1, MIN}, {0, 1, MAX}};
        for (int[] w : wrong) {
            Twins.stays(c, Twins::lively, "entry(" + w[0] + ", " + w[1] + ", " + w[2] + ")",
                    x -> x.entry(w[0], w[1], w[2]), -2);
        }
        Twins.stays(c, x -> {
            Twins.lively(x);
            for (int i = x.count(3); i < 20; i++) {
                x.entry(6, 7, i);
            }
        }, "a 21st", x -> x.entry(0, 1, 1), -2);
        for (int i = 1; i < 20; i++) {
            c.x.entry(0, 1, i);
        }
        c.due("a 20th", c.x.entry(0, 1, 20), 20).due("a 21st", c.x.entry(0, 1, 21), -2).due("entries", c.x.count(3), 20);
        c.due("a wrong one of 20", c.x.entry(0, 0, 0), -2).due("entries", c.x.count(3), 20);
    }

    private static void entriesInOrder() {
        Check c = Sentence.of("III",
                "A BOOK: ENTRIES 0 to 19 that one told another one at an HOUR (1 to 99), in the order told.");
        for (int i = 0; i < 20; i++) {
            c.due("entry " + i, c.x.entry(0, 1, 99 - 5 * i), i + 1);
        }
        for (int i = 0; i < 20; i++) {
            c.due("the first without a talk", c.x.book(0), i).due("talk", c.x.talk(0, 1, 99 - 5 * i), i);
        }
        c.due("all can", c.x.book(0), -2);
        c = Sentence.told("III", "A BOOK: ENTRIES 0 to 19 that one told another one at an HOUR (1 to 99), in the order told.",
                "need 9 1;talk 0 9 1;talk 9 0 99", 2, 0);
        c.x.entry(0, 9, 1);
        c.x.entry(9, 0, 99);
        c.due("0 at 1 tells 9", c.x.byBook(0, 9), 1).due("both can", c.x.book(0), -2).due("lies", c.x.lies(0), 3);
    }

    private static void canBe() {
        Check c = Sentence.of("III", "CAN BE: the first ENTRY that can't be: there is no such TALK,");
        c.town("talk 0 1 5", 1);
        int[][] wrong = {{0, 1, 4}, {0, 1, 6}, {1, 0, 5}, {0, 2, 5}, {2, 1, 5}};
        for (int[] w : wrong) {
            c.x.entry(-1, 0, 0);
            c.x.entry(0, 1, 5);
            c.due("it can", c.x.book(0), -2);
            c.x.entry(w[0], w[1], w[2]);
            c.due("it can't", c.x.book(0), 1);
        }
        c.town("need 0 1", 0).due("no talks at all", c.x.book(0), 0);
        c = Sentence.of("III", "or who was told does not HEAR it then,");
        c.town("deaf 1 5 7;proud 2 0;talk 0 1 4;talk 0 1 8;talk 0 1 5;talk 0 1 7;talk 0 2 9;talk 1 2 9", 6);
        int[][] told = {{0, 1, 4}, {0, 1, 8}, {1, 2, 9}, {0, 1, 5}, {0, 1, 7}, {0, 2, 9}};
        for (int i = 0; i < told.length; i++) {
            c.x.entry(-1, 0, 0);
            c.x.entry(told[i][0], told[i][1], told[i][2]);
            c.due("hears it, " + i, c.x.book(0), i < 3 ? -2 : 0);
        }
        c = Sentence.of("III", "or who told is SILENT,");
        c.town("talk 0 1 4;talk 1 0 5", 2);
        c.x.entry(0, 1, 4);
        c.x.entry(1, 0, 5);
        c.x.silent(4);
        c.due("another one is", c.x.book(0), -2);
        c.x.silent(1);
        c.due("0 is", c.x.book(0), 0);
        c.x.silent(2);
        c.due("1 is, who is told by the first", c.x.book(0), 1);
        c.x.first(3);
        c.due("first ones are not looked at", c.x.book(0), 1);
        c.x.silent(0);
        c.due("nobody is", c.x.book(0), -2);
    }

    private static void toldTwice() {
        Check c = Sentence.of("III", "or the same ENTRY is told twice; none: all can.");
        c.town("talk 0 1 4;talk 0 1 4;talk 0 1 5;talk 2 1 4;talk 0 3 4", 5);
        c.due("none", c.x.book(0), -2);
        int[][] unlike = {{0, 1, 4}, {0, 1, 5}, {2, 1, 4}, {0, 3, 4}};
        for (int[] e : unlike) {
            c.x.entry(e[0], e[1], e[2]);
            c.due("unlike ones", c.x.book(0), -2);
        }
        c.x.entry(0, 1, 4);
        c.due("the second of alike ones, though there are two such talks", c.x.book(0), 4);
        c.x.entry(0, 1, 4);
        c.due("and the third", c.x.book(0), 4).due("the first can be", c.x.book(1), 5);
    }

    private static void seers() {
        Check c = Sentence.of("III",
                "SEERS: PEOPLE who by ENTRIES that can be told it, and by none of these were told it at an HOUR ahead of that.");
        c.town("talk 0 1 5;talk 1 2 5;talk 1 2 6;talk 1 2 4;talk 9 0 1;talk 3 9 2", 6);
        c.due("none", c.x.book(1), 0);
        c.x.entry(0, 1, 5);
        c.due("0", c.x.book(1), 1);
        c.x.entry(1, 2, 6);
        c.due("1 was told at the hour ahead", c.x.book(1), 1);
        c.x.entry(1, 2, 5);
        c.due("1 told at the very hour", c.x.book(1), 3);
        c.x.entry(-1, 0, 0);
        c.x.entry(1, 2, 6);
        c.x.entry(1, 2, 4);
        c.x.entry(0, 1, 5);
        c.due("1 told ahead of it, and behind it", c.x.book(1), 3);
        c.x.entry(9, 0, 1);
        c.due("9 in place of 0", c.x.book(1), 514);
        c.x.entry(3, 9, 2);
        c.due("9 was told behind it", c.x.book(1), 522);
        c.x.silent(512);
        c.due("what can't be is not looked at", c.x.book(1), 11);
        c.x.entry(-1, 0, 0);
        c.x.entry(9, 0, 1);
        c.due("he can't have told", c.x.book(1), 0);
    }

    private static void bookWhat() {
        Check c = Sentence.of("23", "What 0: the first ENTRY that can't be (-2: all can), 1: SEERS (as bits).");
        c.due("of none", c.x.book(0), -2).due("of none", c.x.book(1), 0);
        for (int i = 0; i < 19; i++) {
            c.x.talk(9, 8, 1 + i);
            c.x.entry(9, 8, 1 + i);
        }
        c.due("all can", c.x.book(0), -2).due("9", c.x.book(1), 512);
        c.x.entry(8, 9, 99);
        c.due("the last of twenty", c.x.book(0), 19).due("9", c.x.book(1), 512);
        c = Sentence.of("23", "NONE for others.");
        for (int what : new int[] {-1, 2, MIN, MAX}) {
            Twins.stays(c, Twins::lively, "book(" + what + ")", x -> x.book(what), -1);
        }
    }

    private static void seed() {
        Check c = Sentence.of("36", "x becomes a number: what it was;");
        c.due("at first", c.x.seed(0), 0).due("the least", c.x.seed(MAX), 0).due("the highest", c.x.seed(1), MAX);
        c.due("x", c.x.count(6), 1).due("back to 0", c.x.seed(0), 1).due("x", c.x.count(6), 0);
        c = Sentence.of("36", "NONE, and nothing happens, below 0.");
        for (int x : new int[] {-1, -2, MIN, MIN + 1}) {
            Twins.stays(c, Twins::lively, "seed(" + x + ")", y -> y.seed(x), -1);
        }
    }

    private static void count() {
        Check c = Sentence.of("38", "What 0: TALKS, 1: LAWS, 2: deaf CLAUSES (8: proud ones), 3: ENTRIES, 4: FIRST ones as bits, "
                + "5: SILENT ones as bits, 6: x, 7: bytes of the TAPE.");
        for (int what = 0; what <= 8; what++) {
            c.due("at first", c.x.count(what), 0);
        }
        c.town("deaf 1 2 3;deaf 4 5 6;deaf 7 8 9;proud 1 2;proud 3 4;talk 0 1 2", 1);
        c.law("tell 1=1", 0).law("tell 1=1", 1).law("tell 1=1", 2).law("tell 1=1", 3);
        for (int i = 1; i <= 5; i++) {
            c.x.entry(0, 1, i);
        }
        c.x.first(6);
        c.x.silent(1023);
        c.x.seed(MAX);
        c.write("12345678");
        int[] due = {1, 4, 3, 5, 6, 1023, MAX, 8, 2};
        for (int what = 0; what <= 8; what++) {
            c.due("count(" + what + ")", c.x.count(what), due[what]);
        }
        c.due("talk", c.x.talk(1, 2, 3), 1).due("one more", c.x.count(0), 2);
        c = Sentence.of("38", "NONE for others.");
        for (int what : new int[] {-1, 9, MIN, MAX}) {
            Twins.stays(c, Twins::lively, "count(" + what + ")", x -> x.count(what), -1);
        }
    }

    private static void image() {
        Check c = Sentence.of("39", "An IMAGE is made: how many TALKS;");
        c.due("of none", c.x.image(0), 0).town("talk 0 1 1;talk 0 1 2", 2).due("of two", c.x.image(3), 2);
        c.due("back to none", c.x.back(0), 0).due("back to two", c.x.back(3), 2);
        c.town(TownEdges.many("talk0 1 1", 30), 30).due("of thirty, in place of two", c.x.image(3), 30);
        c.town("need 1 1", 0).due("back to thirty", c.x.back(3), 30);
        for (int k = 0; k < 4; k++) {
            int image = k;
            Twins.like(c, Twins::lively, "image " + k + " and back", x -> {
                x.image(image);
                return x.back(image);
            }, 12, x -> x.image(image));
        }
        c = Sentence.of("39", "NONE without it.");
        for (int k : new int[] {-1, 4, MIN, MAX}) {
            Twins.stays(c, Twins::lively, "image(" + k + ")", x -> x.image(k), -1);
        }
    }

    private static void back() {
        Check c = Sentence.of("40", "All is as in an IMAGE: how many TALKS;");
        Twins.like(c, Twins::lively, "back to where it is", x -> {
            x.image(3);
            x.town();
            x.talk(0, 1, 2);
            x.first(0);
            x.silent(0);
            x.seed(0);
            x.entry(-1, 0, 0);
            int talks = x.back(3);
            Twins.text(x, "talk 7 8 9;need 1 3;deaf 2 0 1");
            return talks;
        }, 12, x -> x.image(3));
        c = Sentence.of("40", "NONE, and nothing happens, if it was never made, or without it.");
        for (int k : new int[] {1, 3, -1, 4, MIN, MAX}) {
            Twins.stays(c, Twins::lively, "back(" + k + ")", x -> x.back(k), -1);
        }
        for (int k = 0; k < 4; k++) {
            int image = k;
            Twins.stays(c, x -> x.talk(1, 2, 3), "back(" + k + ") of none", x -> x.back(image), -1);
        }
    }

    private static void imageHolds() {
        Check c = Sentence.of("IV", "IMAGES 0 to 3: all but the TAPE and the LAWS, as it is; gone back to, it is as it was (these stay).");
        for (int k = 0; k < 4; k++) {
            c.town("need 1 " + (k % 3 + 1) + ";deaf 2 " + k + " " + k + ";proud 3 " + (k + 4) + ";talk 0 1 " + (k + 1), 1);
            c.x.first(k + 1);
            c.x.silent(k + 10);
            c.x.seed(k + 100);
            c.x.entry(0, 1, k + 1);
            c.due("image " + k, c.x.image(k), 1);
        }
        c.town("talk 5 6 7;talk 7 8 9", 2).law("tell 1=1", 0).law("hush 1=1", 1).write("tape");
        c.x.entry(-1, 0, 0);
        for (int k : new int[] {3, 0, 2, 1}) {
            c.due("back " + k, c.x.back(k), 1).due("hour", c.x.talks(0, 2), k + 1).due("first", c.x.count(4), k + 1);
            c.due("silent", c.x.count(5), k + 10).due("x", c.x.count(6), k + 100).due("entries", c.x.count(3), k + 1);
            c.due("need", c.x.person(1, 0), k % 3 + 1).due("deaf", c.x.person(2, 100 + k), 1);
            c.due("deafs", c.x.count(2), 1).due("proud", c.x.person(3, 204 + k), 1).due("prouds", c.x.count(8), 1);
            c.due("deaf at another hour", c.x.person(2, 100 + (k + 1) % 4), 0);
            c.due("the first entry can't be", c.x.book(0), k == 0 ? -2 : 0);
            c.due("the tape stays", c.x.count(7), 4).due("the laws stay", c.x.count(1), 2);
            c.due("by law 1 nobody tells", c.x.tells(1, 0), 0);
        }
        c.x.talk(1, 2, 3);
        c.x.entry(1, 2, 3);
        c.due("the image is as it was made", c.x.back(1), 1).due("entries", c.x.count(3), 2);
        c.due("the tape's bytes, too", c.x.town(), Check.fault(0, 0)).due("tape", c.x.count(7), 4);
    }
}
