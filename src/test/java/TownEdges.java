/** The edges of a TOWN's text and its FAULTS: part I of the document, and promise 4. */
final class TownEdges {
    private TownEdges() {
    }

    static void run() {
        bytes();
        clauses();
        need();
        deafBounds();
        deafMany();
        proudBounds();
        proudMany();
        talk();
        people();
        talksInOrder();
        faultPlace();
        faultByte();
        faultNumber();
        faultTooMany();
        leastOfOnePlace();
        townTaken();
        townStays();
    }

    static String many(String clause, int times) {
        return (clause + ";").repeat(times).substring(0, (clause.length() + 1) * times - 1);
    }

    private static void bytes() {
        Check c = Sentence.of("I", "A TOWN is a text of at most 400 bytes:");
        String most = " ".repeat(62) + many("talk0 1 10", 30) + ";need 1 ";
        c.due("its length", most.length(), 399);
        c.town(most + "1", 30).due("the last byte counts", c.x.person(1, 0), 1);
        c.town(most + "3", 30).due("the last byte counts", c.x.person(1, 0), 3);
        c.town(most + "4", Check.fault(399, 1)).town(most + "x", Check.fault(399, 0));
        c.town(most + " ", Check.fault(400, 0));
        c.town("need 1 1" + " ".repeat(392), 0).town(" ".repeat(400), Check.fault(400, 0));
        c.town("need 1 1" + " ".repeat(391) + ";", Check.fault(400, 0));
        c.town("a", Check.fault(0, 0)).town("", Check.fault(0, 0));
        c = Sentence.of("I", "A TOWN is a text of at most 400 bytes:");
        String[] ends = {"need", "need 1", "deaf 1 2", "proud 1", "talk 1 2", "need 1 1;"};
        for (String end : ends) {
            c.town(" ".repeat(400 - end.length()) + end, Check.fault(400, 0));
        }
    }

    private static void clauses() {
        Check c = Sentence.of("I", "CLAUSE { ; CLAUSE }, 32 at most:");
        c.town("", Check.fault(0, 0)).town(" ", Check.fault(1, 0)).town(";", Check.fault(0, 0));
        c.town("need 1 1", 0).town("need 1 1;need 2 1", 0).town("need 1 1;", Check.fault(9, 0));
        c.town(";need 1 1", Check.fault(0, 0)).town("need 1 1;;need 2 1", Check.fault(9, 0));
        c.town("need 1 1 need 2 1", Check.fault(9, 0)).town("need 1 1,need 2 1", Check.fault(8, 0));
        c.town(many("need1 1", 31) + ";need7 3", 0).due("the 32nd counts", c.x.person(7, 0), 3);
        c.town(many("need1 1", 32) + ";need7 1", Check.fault(256, 4)).due("need", c.x.person(7, 0), 3);
        c.town(many("talk0 1 1", 30) + ";need1 1;need2 1", 30);
        c.town(many("talk0 1 1", 30) + ";need1 1;need2 1;need3 1", Check.fault(316, 4));
        String both = many("deaf0 1 1", 12) + ";" + many("proud0 1", 12);
        c.town(both + ";" + many("need1 1", 8), 0);
        c.town(both + ";" + many("need1 1", 9), Check.fault(292, 4));
    }

    private static void need() {
        Check c = Sentence.of("I", "need NUMBER NUMBER (a person 0 to 9,");
        c.town("need 0 1", 0).due("0", c.x.person(0, 0), 1).due("9", c.x.person(9, 0), 2);
        c.town("need 9 1", 0).due("0", c.x.person(0, 0), 2).due("9", c.x.person(9, 0), 1);
        c.town("need 10 1", Check.fault(5, 1)).town("need 99999 1", Check.fault(5, 1));
        c.town("need 9", Check.fault(6, 0)).town("need", Check.fault(4, 0)).town("need 1 1 1", Check.fault(9, 0));
        c = Sentence.of("I", "how many rows he needs, 1 to 3;");
        for (int n = 1; n <= 3; n++) {
            c.town("need 4 " + n, 0).due("need", c.x.person(4, 0), n);
        }
        c.town("need 4 0", Check.fault(7, 1)).town("need 4 4", Check.fault(7, 1)).due("stays", c.x.person(4, 0), 3);
        c.town("need 4 99999", Check.fault(7, 1)).town("need 4 11", Check.fault(7, 1));
        c = Sentence.of("I", "2 without;");
        for (int p = 0; p < 10; p++) {
            c.due("need in a new town", c.x.person(p, 0), 2);
        }
        c.town("need 3 1;need 4 3", 0).town("talk 0 1 1", 1).due("need", c.x.person(3, 0), 2);
        c.due("need", c.x.person(4, 0), 2);
        c = Sentence.of("I", "of one the last told)");
        c.town("need 3 1;need 4 1;need 3 2;need 3 3", 0).due("3", c.x.person(3, 0), 3).due("4", c.x.person(4, 0), 1);
        c.town("need 3 3;need 3 2", 0).due("3", c.x.person(3, 0), 2);
    }

    private static void deafBounds() {
        Check c = Sentence.of("I", "| deaf NUMBER NUMBER NUMBER (a person, from and till: HOURS 0 to 99,");
        c.town("deaf 0 0 0;deaf 9 99 99", 0).due("0 at 0", c.x.person(0, 100), 1).due("0 at 1", c.x.person(0, 101), 0);
        c.due("9 at 98", c.x.person(9, 198), 0).due("9 at 99", c.x.person(9, 199), 1).due("9 at 0", c.x.person(9, 100), 0);
        c.town("deaf 5 0 99", 0);
        for (int hour = 0; hour < 100; hour++) {
            c.due("5 at " + hour, c.x.person(5, 100 + hour), 1).due("4 at " + hour, c.x.person(4, 100 + hour), 0);
        }
        c = Sentence.of("I", "| deaf NUMBER NUMBER NUMBER (a person, from and till: HOURS 0 to 99,");
        c.town("deaf 10 0 0", Check.fault(5, 1)).town("deaf 1 100 100", Check.fault(7, 1));
        c.town("deaf 1 99 100", Check.fault(10, 1)).town("deaf 1 0 100", Check.fault(9, 1));
        c.town("deaf 1 1", Check.fault(8, 0)).town("deaf 1 1 1 1", Check.fault(11, 0));
        c = Sentence.of("I", "till not below from;");
        c.town("deaf 1 7 7", 0).due("at 6", c.x.person(1, 106), 0).due("at 7", c.x.person(1, 107), 1);
        c.due("at 8", c.x.person(1, 108), 0);
        c.town("deaf 1 7 6", Check.fault(9, 1)).town("deaf 1 99 98", Check.fault(10, 1));
        c.town("deaf 1 1 0", Check.fault(9, 1)).town("deaf 1 7 8", 0).due("at 8", c.x.person(1, 108), 1);
        c.town("deaf 1 62 65", 0);
        for (int hour = 60; hour < 68; hour++) {
            c.due("at " + hour, c.x.person(1, 100 + hour), hour >= 62 && hour <= 65 ? 1 : 0);
        }
    }

    private static void deafMany() {
        Check c = Sentence.of("I", "12 at most)");
        StringBuilder text = new StringBuilder("deaf9 0 0");
        for (int i = 1; i < 12; i++) {
            text.append(";deaf9 ").append(i * 2).append(' ').append(i * 2);
        }
        c.town(text.toString(), 0).due("deaf ones", c.x.count(2), 12).due("the 12th", c.x.person(9, 122), 1);
        c.due("between", c.x.person(9, 121), 0);
        int place = text.length() + 1;
        c.town(text + ";deaf9 30 30", Check.fault(place, 4)).due("deaf ones", c.x.count(2), 12);
        c.town(text + ";need 1 1; deaf9 30 30", Check.fault(place + 10, 4));
        c.town(many("deaf0 1 1", 12), 0).due("alike ones count", c.x.count(2), 12);
        c.town(many("deaf0 1 1", 13), Check.fault(120, 4));
    }

    private static void proudBounds() {
        Check c = Sentence.of("I", "| proud NUMBER NUMBER (a person, an unlike one of whom he hears nothing;");
        c.town("proud 0 9;proud 9 0", 0).due("0 of 9", c.x.person(0, 209), 1).due("9 of 0", c.x.person(9, 200), 1);
        c.due("0 of 8", c.x.person(0, 208), 0).due("8 of 0", c.x.person(8, 200), 0).due("prouds", c.x.count(8), 2);
        c.town("proud 10 0", Check.fault(6, 1)).town("proud 0 10", Check.fault(8, 1));
        for (int p = 0; p < 10; p++) {
            c.town("proud " + p + " " + p, Check.fault(8, 1));
        }
        c.town("proud 0", Check.fault(7, 0)).town("proud 0 1 2", Check.fault(10, 0));
        c.town("need 1 1;proud 1 0;talk 0 1 5;talk 2 1 6", 2).law("tell 1=1", 0);
        c.x.first(1);
        c.due("he hears nothing", c.x.believes(0, 1), -2);
        c.x.first(4);
        c.due("of others he does", c.x.believes(0, 1), 6);
    }

    private static void proudMany() {
        Check c = Sentence.of("I", "12 at most)");
        StringBuilder text = new StringBuilder("proud9 0");
        for (int i = 1; i < 12; i++) {
            text.append(";proud").append(i / 9).append(' ').append(i % 9 + 1);
        }
        c.town(text.toString().replace("proud1 1", "proud1 9"), 0).due("proud ones", c.x.count(8), 12);
        c.due("the 12th", c.x.person(1, 203), 1);
        c.town(text.toString().replace("proud1 1", "proud1 9") + ";proud5 6", Check.fault(108, 4));
        c.due("proud ones", c.x.count(8), 12);
        c.town(many("proud0 1", 12), 0).due("alike ones count", c.x.count(8), 12);
        c.town(many("proud0 1", 13), Check.fault(108, 4));
    }

    private static void talk() {
        Check c = Sentence.of("I", "| talk NUMBER NUMBER NUMBER (who, to whom, unlike, an HOUR 1 to 99).");
        c.town("talk 0 9 1;talk 9 0 99", 2);
        c.due("who", c.x.talks(0, 0), 0).due("to", c.x.talks(0, 1), 9).due("hour", c.x.talks(0, 2), 1);
        c.due("who", c.x.talks(1, 0), 9).due("to", c.x.talks(1, 1), 0).due("hour", c.x.talks(1, 2), 99);
        c.town("talk 10 0 1", Check.fault(5, 1)).town("talk 0 10 1", Check.fault(7, 1));
        c.town("talk 0 1 0", Check.fault(9, 1)).town("talk 0 1 100", Check.fault(9, 1));
        for (int p = 0; p < 10; p++) {
            c.town("talk " + p + " " + p + " 5", Check.fault(7, 1));
        }
        c.town("talk 0 1", Check.fault(8, 0)).town("talk 0 1 2 3", Check.fault(11, 0)).town("talk", Check.fault(4, 0));
    }

    private static void people() {
        Check c = Sentence.of("I", "PEOPLE 0 to 9, all there.");
        for (int p = 0; p < 10; p++) {
            c.due("person " + p, c.x.person(p, 0), 2).due("reach of " + p, c.x.reach(p, 0), 1 << p);
        }
        c.due("person 10", c.x.person(10, 0), -1).due("person -1", c.x.person(-1, 0), -1);
        c.due("reach of 10", c.x.reach(10, 0), -1).due("reach of -1", c.x.reach(-1, 0), -1);
    }

    private static void talksInOrder() {
        Check c = Sentence.of("I", "TALKS 0 to 29, in the order told.");
        StringBuilder text = new StringBuilder();
        for (int t = 0; t < 30; t++) {
            text.append(t == 0 ? "" : ";").append("talk").append(t % 10).append(' ').append((t + 1) % 10).append(' ')
                    .append(40 - t);
        }
        c.town(text.toString(), 30);
        for (int t = 0; t < 30; t++) {
            c.due("talk " + t, c.x.talks(t, 2), 40 - t).due("talk " + t, c.x.talks(t, 0), t % 10);
        }
        c.due("talk 30", c.x.talks(30, 0), -1).due("talk -1", c.x.talks(-1, 0), -1);
    }

    private static void faultPlace() {
        Check c = Sentence.of("I", "FAULTS, the first along the text, 1 + 8 * its place and:");
        c.town("x", -3).town(" x", -11).town("need 9 4", -2 - (1 + 56 + 1));
        c.town("need 10 4", Check.fault(5, 1)).town("need 9 4;x", Check.fault(7, 1)).town("x;need 9 4", Check.fault(0, 0));
        c.town("deaf 10 9 8", Check.fault(5, 1)).town("deaf 1 100 8", Check.fault(7, 1));
        c.town(many("deaf0 1 1", 13) + ";x", Check.fault(120, 4)).town("x;" + many("deaf0 1 1", 13), Check.fault(0, 0));
        c.town(" ".repeat(399) + "x", -2 - (1 + 8 * 399)).town(" ".repeat(400), -2 - (1 + 8 * 400));
    }

    private static void faultByte() {
        String quote = "0 a byte or WORD that can't stand there, or the end (behind the last byte);";
        for (int b = 0; b < 256; b++) {
            Check c = Sentence.of("I", quote);
            // No clause has one byte; behind a blank there is the end.
            c.town(String.valueOf((char) b), Check.fault(b == ' ' ? 1 : 0, 0));
            boolean digit = b >= '0' && b <= '9';
            c.town("need 1" + (char) b + "2", b == ' ' ? 0 : digit ? Check.fault(5, 1) : Check.fault(6, 0));
        }
        Check c = Sentence.of("I", quote);
        String[] words = {"needs 1 1", "nee 1 1", "eed 1 1", "Need 1 1", "NEED 1 1", "talks 0 1 2", "tell 1=1", "deaff 1 1 1",
            "prouds 1 2", "needneed 1 1", "n", "need_1 1"};
        for (String word : words) {
            c.town(word, Check.fault(word.equals("need_1 1") ? 4 : 0, 0));
        }
        c.town("need one 1", Check.fault(5, 0)).town("need 1 need 1", Check.fault(7, 0));
        c.town("need 1 1x", Check.fault(8, 0)).town("need -1 1", Check.fault(5, 0)).town("need 1 +1", Check.fault(7, 0));
        c.town("need 1", Check.fault(6, 0)).town("need 1   ", Check.fault(9, 0)).town("need 1 1;  ", Check.fault(11, 0));
        c.town("talk 1 2", Check.fault(8, 0)).town("deaf", Check.fault(4, 0)).town("proud 1 ", Check.fault(8, 0));
    }

    private static void faultNumber() {
        Check c = Sentence.of("I", "1 a NUMBER of more digits, or not as told;");
        c.town("need 00001 1", 0).due("five digits", c.x.person(1, 0), 1).town("need 000001 1", Check.fault(5, 1));
        c.town("need 2 00003", 0).due("five digits", c.x.person(2, 0), 3).town("need 2 000003", Check.fault(7, 1));
        c.town("talk 00000 00001 00099", 1).town("talk 0 1 000099", Check.fault(9, 1));
        c.town("need 1 99999", Check.fault(7, 1)).town("need 1 100000", Check.fault(7, 1));
        // As numbers of 32 bits, and of 64, these would be 1.
        c.town("need 4294967297 1", Check.fault(5, 1)).town("need 18446744073709551617 1", Check.fault(5, 1));
        c.town("need 1 18446744073709551617", Check.fault(7, 1)).town("need 1 " + "9".repeat(393), Check.fault(7, 1));
    }

    private static void faultTooMany() {
        Check c = Sentence.of("I", "4 one CLAUSE too many, a 31st TALK, a 13th deaf or proud (at its first byte).");
        c.town(many("need1 1", 32) + ";  need", Check.fault(258, 4));
        c.town(many("talk0 1 1", 30), 30).town(many("talk0 1 1", 30) + "; talk", Check.fault(301, 4));
        c.town(many("talk0 1 1", 30) + ";need1 1;talk 0 0 0", Check.fault(308, 4));
        c.town(many("deaf0 1 1", 12) + ";deaf", Check.fault(120, 4));
        c.town(many("proud0 1", 12) + ";  proud 3 3", Check.fault(110, 4));
        c.town(many("deaf0 1 1", 12) + ";proud0 1", 0).town(many("proud0 1", 12) + ";deaf0 1 1", 0);
    }

    private static void leastOfOnePlace() {
        Check c = Sentence.of("I", "Of one place the least.");
        // The 33rd clause is no clause; the 33rd is a 31st talk, too; what stands there is a number too long.
        c.town(many("need1 1", 32) + ";x", Check.fault(256, 0)).town(many("need1 1", 32) + ";", Check.fault(256, 0));
        c.town(many("need1 1", 32) + ";1234567", Check.fault(256, 0));
        c.town(many("need1 1", 2) + ";" + many("talk0 1 1", 31), Check.fault(316, 4));
        c.town("need 1 1 1234567", Check.fault(9, 0)).town("1234567", Check.fault(0, 0));
        c.town("talk 0 0000000 5", Check.fault(7, 1));
    }

    private static void townTaken() {
        Check c = Sentence.of("4", "The TAPE, which is empty then, is the TOWN in place of the one there was");
        c.town("need 1 1;deaf 2 3 4;proud 5 6;talk 7 8 9", 1).due("tape", c.x.count(7), 0).due("end", c.x.end(1), -1);
        c.due("nothing is left of it", c.x.town(), Check.fault(0, 0)).due("talks", c.x.count(0), 1);
        c.town("talk 1 2 3;talk 4 5 6", 2).due("need", c.x.person(1, 0), 2).due("deaf", c.x.person(2, 103), 0);
        c.due("proud", c.x.person(5, 206), 0).due("deafs", c.x.count(2), 0).due("prouds", c.x.count(8), 0);
        c.due("who", c.x.talks(0, 0), 1).due("who", c.x.talks(1, 0), 4);
        c = Sentence.of("4", "(FIRST, SILENT ones, the BOOK, x stay):");
        c.x.first(1023);
        c.x.silent(513);
        c.x.seed(Integer.MAX_VALUE);
        for (int i = 1; i <= 20; i++) {
            c.x.entry(0, 1, i);
        }
        c.law("tell 1=1", 0).town("talk 0 1 20", 1);
        c.due("first", c.x.count(4), 1023).due("silent", c.x.count(5), 513).due("x", c.x.count(6), Integer.MAX_VALUE);
        c.due("entries", c.x.count(3), 20).due("laws", c.x.count(1), 1);
        c.x.silent(0);
        c.due("the first entry has no talk now", c.x.book(0), 0).due("the last one has", c.x.book(1), 1);
        c = Sentence.of("4", "how many TALKS;");
        c.town("need 1 1", 0).town("talk 0 1 1", 1).town(many("talk0 1 1", 30), 30);
    }

    private static void townStays() {
        Check c = Sentence.of("4", "-2 - its FAULT, and all stays.");
        String[] texts = {"", "x", " ", "talk 1 2 3;need 1 3;x", "need 1 3;need 2 4", "talk 5 6 7;talk 1 1 1",
            many("talk5 6 7", 31), many("deaf5 6 7", 13), many("proud5 6", 13), many("need5 1", 33), "need 1 123456"};
        int[] due = {Check.fault(0, 0), Check.fault(0, 0), Check.fault(1, 0), Check.fault(20, 0), Check.fault(16, 1),
            Check.fault(18, 1), Check.fault(300, 4), Check.fault(120, 4), Check.fault(108, 4), Check.fault(256, 4),
            Check.fault(7, 1)};
        for (int i = 0; i < texts.length; i++) {
            String text = texts[i];
            Twins.stays(c, x -> {
                Twins.lively(x);
                Twins.text(x, text);
            }, "town of '" + text + "'", TwoMouths::town, due[i]);
        }
        c.town("talk 1 2 3;talk 4 4 4", Check.fault(18, 1)).due("bytes", c.x.count(7), 21);
        c.due("the text can be mended", c.x.end(10), 10).due("town", c.x.town(), 1);
    }
}
