/** The edges of a new object and of the TAPE: promises 1 to 3, and how long an object is used. */
final class TapeEdges {
    private TapeEdges() {
    }

    static void run() {
        constants();
        life();
        newObject();
        feedOrder();
        feedFull();
        endCuts();
        endRefused();
    }

    private static void constants() {
        Sentence.of("constants", "`NONE = -1`: None.").due("NONE", TwoMouths.NONE, -1);
    }

    private static void life() {
        Check c = Sentence.of("life",
                "An object is used for at most 512 calls after it has been made; what later calls answer is free.");
        for (int call = 1; call <= 512; call++) {
            c.due("call " + call, c.x.seed(call), call - 1);
        }
        TwoMouths fed = new TwoMouths();
        for (int call = 1; call < 512; call += 2) {
            c.due("feed, call " + call, fed.feed(0, 0, 0, 0, 0), 20);
            c.due("law, call " + (call + 1), fed.law(), Check.fault(0, 0));
        }
        TwoMouths back = new TwoMouths();
        back.talk(0, 1, 1);
        back.image(3);
        for (int call = 3; call < 512; call += 2) {
            c.due("talk, call " + call, back.talk(1, 2, 3), 1);
            c.due("back, call " + (call + 1), back.back(3), 1);
        }
    }

    private static void newObject() {
        Check c = Sentence.of("1", "No TALKS, no LAWS.");
        c.due("talks", c.x.count(0), 0).due("laws", c.x.count(1), 0);
        c.due("talk 0", c.x.talks(0, 0), -1).due("tells", c.x.tells(0, 0), -1);
        for (int law = -1; law <= 6; law++) {
            c.due("last(" + law + ")", c.x.last(law), -1).due("believes", c.x.believes(law, 0), -1);
        }
        for (int what = 2; what <= 8; what++) {
            c.due("count(" + what + ")", c.x.count(what), 0);
        }
        for (int k = 0; k < 4; k++) {
            c.due("back(" + k + ")", c.x.back(k), -1);
        }
        c.due("the empty tape", c.x.town(), Check.fault(0, 0)).due("the empty tape", c.x.law(), Check.fault(0, 0));
        c.due("all can be", c.x.book(0), -2).due("no seers", c.x.book(1), 0).due("reach", c.x.reach(9, 99), 512);
        c.due("the first talk", c.x.talk(0, 1, 1), 0);
    }

    private static void feedOrder() {
        Check c = Sentence.of("2",
                "Twenty bytes come behind the TAPE, of each number the highest first: how many it has;");
        // "need 3 1;talk 4 5 67", then " ;deaf 8 9 9          ".
        c.due("feed", c.x.feed(0x6e656564, 0x20332031, 0x3b74616c, 0x6b203420, 0x35203637), 20);
        c.due("feed", c.x.feed(0x203b6465, 0x61662038, 0x20392039, 0x20202020, 0x20202020), 40);
        c.due("town", c.x.town(), 1).due("need", c.x.person(3, 0), 1).due("who", c.x.talks(0, 0), 4);
        c.due("to", c.x.talks(0, 1), 5).due("hour", c.x.talks(0, 2), 67).due("deaf", c.x.person(8, 109), 1);
        // Bytes of 128 and more, and 0, are bytes like others: each can't stand where it is.
        int[] wrong = {0xff202020, 0x20ff2020, 0x2020ff20, 0x202020ff, 0x80000000, 0x20808080, 0x20200000, 0x20202000};
        int[] place = {0, 1, 2, 3, 0, 1, 2, 3};
        for (int i = 0; i < wrong.length; i++) {
            c.due("feed", c.x.feed(wrong[i], wrong[i], 0, 0, 0), 20);
            c.due("byte " + place[i], c.x.town(), Check.fault(place[i], 0)).due("end", c.x.end(0), 0);
        }
        c.x.feed(0x20202020, 0x20202020, 0x20202020, 0x20202020, -1);
        c.due("the last number's highest", c.x.town(), Check.fault(16, 0));
        c.x.end(19);
        c.x.feed(0x20202020, 0x20202020, 0x20202020, 0x20202020, Integer.MIN_VALUE);
        c.due("39 bytes", c.x.count(7), 39).due("behind byte 18", c.x.town(), Check.fault(16, 0));
    }

    private static void feedFull() {
        String quote = "NONE, and none comes, if it would have more than 400.";
        Check c = Sentence.of("2", quote);
        for (int i = 1; i <= 20; i++) {
            c.due("feed", c.x.feed(0, 0, 0, 0, 0), 20 * i);
        }
        c.due("of 400", c.x.feed(0, 0, 0, 0, 0), -1).due("bytes", c.x.count(7), 400);
        for (int length = 381; length < 400; length++) {
            c.x.end(0);
            c.write(" ".repeat(length)).due("of " + length, c.x.feed(0, 0, 0, 0, 0), -1);
            c.due("bytes", c.x.count(7), length);
        }
        TwoMouths x = new TwoMouths();
        Twins.text(x, " ".repeat(380));
        c.due("of 380", x.feed(0x74616c6b, 0x20302031, 0x20322020, 0x20202020, 0x20202020), 400);
        c.due("of 400", x.feed(-1, -1, -1, -1, -1), -1).due("the text is whole", x.town(), 1);
        for (int length : new int[] {381, 382, 399, 400}) {
            String text = "talk 1 2 3;" + " ".repeat(length - 20) + "deaf 7 8 9".substring(0, 9);
            Twins.stays(c, y -> Twins.text(y, text), "feed behind " + length,
                    y -> y.feed(0x39393939, 0x39393939, 0x39393939, 0x39393939, 0x39393939), -1);
        }
    }

    private static void endCuts() {
        Check c = Sentence.of("3", "The TAPE has its first n bytes alone: n;");
        c.write("need 1 3;talk 2 3 4xyz");
        c.due("all of them", c.x.end(22), 22).due("too many", c.x.town(), Check.fault(19, 0));
        c.due("end", c.x.end(19), 19).due("bytes", c.x.count(7), 19);
        c.due("feed", c.x.feed(0x3b6e6565, 0x64203120, 0x31202020, 0x20202020, 0x20202020), 39);
        c.due("the new bytes stand at 19", c.x.town(), 1).due("need", c.x.person(1, 0), 1);
        c.write("need 1 2x").due("one less", c.x.end(8), 8).due("town", c.x.town(), 0);
        c.write("need 1 3").due("none", c.x.end(0), 0).due("bytes", c.x.count(7), 0);
        c.due("none again", c.x.end(0), 0).due("nothing to read", c.x.town(), Check.fault(0, 0));
        c.write(" ".repeat(400)).due("400", c.x.end(400), 400).due("399", c.x.end(399), 399);
        c.due("1", c.x.end(1), 1);
        // What was behind the end is not read on: of a number, a word, a sign.
        c = Sentence.of("3", "The TAPE has its first n bytes alone: n;");
        c.write("talk 0 1 99").due("end", c.x.end(10), 10).due("town", c.x.town(), 1).due("hour", c.x.talks(0, 2), 9);
        c.write("need 123456").due("end", c.x.end(6), 6).due("town", c.x.town(), Check.fault(6, 0));
        c.x.end(0);
        c.write("tell 1<=1").due("end", c.x.end(7), 7).due("law", c.x.law(), Check.fault(7, 0));
        c.write("tell tow").due("end", c.x.end(7), 7).due("law", c.x.law(), Check.fault(7, 0));
        c.write("tell 1=tow").due("end", c.x.end(9), 9).due("law", c.x.law(), 0);
    }

    private static void endRefused() {
        Check c = Sentence.of("3", "NONE, and nothing happens, if it has not so many, or n is below 0.");
        int[] lengths = {0, 1, 20, 30, 399, 400};
        for (int length : lengths) {
            String text = "talk 1 2 3;need 4 1;proud 5 6 " + " ".repeat(370);
            int[] wrong = {length + 1, 401, -1, -2, Integer.MIN_VALUE, Integer.MAX_VALUE, length + 256, length - 512};
            for (int n : wrong) {
                Twins.stays(c, x -> Twins.text(x, text.substring(0, length)), "end(" + n + ") of " + length,
                        x -> x.end(n), -1);
            }
        }
        c.write("talk 1 2 3").due("end(9)", c.x.end(9), 9).due("cut is cut", c.x.end(10), -1);
        c.due("bytes", c.x.count(7), 9);
    }
}
