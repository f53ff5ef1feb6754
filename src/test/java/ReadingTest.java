/** Promises 1 to 5: a new object, the tape, the texts of towns and laws with their faults. */
public final class ReadingTest {
    public static void main(String[] args) {
        newObject();
        feed();
        end();
        town();
        townFaults();
        townTooMany();
        law();
        lawFaults();
        lawTooMany();
        lawFaultTape();
        tapeOfTownAndLaw();
        lawWords();
        lawNumbers();
        Check.finish();
    }

    private static void newObject() {
        Check c = new Check("promise 1");
        c.due("NONE", TwoMouths.NONE, -1);
        for (int what = 0; what <= 8; what++) {
            c.due("count(" + what + ")", c.x.count(what), 0);
        }
        c.due("talks", c.x.talks(0, 0), -1);
        c.due("believes", c.x.believes(0, 0), -1);
        for (int p = 0; p < 10; p++) {
            c.due("need", c.x.person(p, 0), 2);
            c.due("first", c.x.person(p, 1), 0);
            c.due("silent", c.x.person(p, 2), 0);
        }
        c.due("back", c.x.back(0), -1);
    }

    private static void feed() {
        Check c = new Check("promise 2");
        c.due("feed", c.x.feed(0x74616c6b, 0x20302031, 0x20323b74, 0x616c6b20, 0x33203420), 20);
        c.due("feed", c.x.feed(0x35000000, 0, 0, 0, 0), 40);
        c.due("count", c.x.count(7), 40);
        c.due("end", c.x.end(21), 21);
        c.due("town", c.x.town(), 2);
        c.due("who", c.x.talks(1, 0), 3);
        c.due("to", c.x.talks(1, 1), 4);
        c.due("hour", c.x.talks(1, 2), 5);
        for (int i = 1; i <= 20; i++) {
            c.due("feed " + i, c.x.feed(-1, -1, -1, -1, -1), 20 * i);
        }
        c.due("feed beyond", c.x.feed(1, 2, 3, 4, 5), -1);
        c.due("count beyond", c.x.count(7), 400);
        c.due("end", c.x.end(381), 381);
        c.due("feed beyond", c.x.feed(1, 2, 3, 4, 5), -1);
        c.due("end", c.x.end(380), 380);
        c.due("feed", c.x.feed(1, 2, 3, 4, 5), 400);
    }

    private static void end() {
        Check c = new Check("promise 3");
        c.due("end", c.x.end(0), 0);
        c.due("end", c.x.end(1), -1);
        c.due("end", c.x.end(-1), -1);
        c.due("end", c.x.end(Integer.MIN_VALUE), -1);
        c.x.feed(0, 0, 0, 0, 0);
        c.due("end", c.x.end(21), -1);
        c.due("count", c.x.count(7), 20);
        c.due("end", c.x.end(20), 20);
        c.due("end", c.x.end(7), 7);
        c.due("end", c.x.end(8), -1);
        c.due("count", c.x.count(7), 7);
    }

    private static void town() {
        Check c = new Check("promise 4");
        c.x.first(5);
        c.x.silent(6);
        c.x.seed(7);
        c.x.entry(0, 1, 2);
        c.town("need 3 1;deaf 1 5 9 ; proud 2 4;talk0 1 1;talk 9 8 99;need 3 3", 2);
        c.due("tape", c.x.count(7), 0);
        c.due("need", c.x.person(3, 0), 3);
        c.due("need", c.x.person(4, 0), 2);
        c.due("deaf 4", c.x.person(1, 104), 0);
        c.due("deaf 5", c.x.person(1, 105), 1);
        c.due("deaf 9", c.x.person(1, 109), 1);
        c.due("deaf 10", c.x.person(1, 110), 0);
        c.due("proud", c.x.person(2, 204), 1);
        c.due("proud", c.x.person(4, 202), 0);
        c.due("deafs", c.x.count(2), 1);
        c.due("prouds", c.x.count(8), 1);
        c.due("first", c.x.count(4), 5);
        c.due("silent", c.x.count(5), 6);
        c.due("x", c.x.count(6), 7);
        c.due("entries", c.x.count(3), 1);
        c.x.talk(1, 2, 3);
        c.town("need 3 9", Check.fault(7, 1));
        c.due("all stays: tape", c.x.count(7), 8);
        c.due("all stays: talks", c.x.count(0), 3);
        c.due("all stays: need", c.x.person(3, 0), 3);
        c.due("again", c.x.town(), Check.fault(7, 1));
        c.town("  need  0  1  ", 0);
        c.due("in place: talks", c.x.count(0), 0);
        c.due("in place: need", c.x.person(3, 0), 2);
        c.due("in place: need", c.x.person(0, 0), 1);
        c.due("in place: deaf", c.x.person(1, 105), 0);
        c.due("in place: proud", c.x.person(2, 204), 0);
        c.due("in place: deafs", c.x.count(2), 0);
        c.due("in place: prouds", c.x.count(8), 0);
        c.town("deaf 9 0 99", 0).due("deaf", c.x.person(9, 100), 1).due("deaf", c.x.person(9, 199), 1);
        c.town("deaf 8 63 64", 0).due("deaf", c.x.person(8, 162), 0).due("deaf", c.x.person(8, 163), 1);
        c.due("deaf", c.x.person(8, 164), 1).due("deaf", c.x.person(8, 165), 0);
        c.town("need00009 00003", 0).due("need", c.x.person(9, 0), 3);
    }

    private static void townFaults() {
        Check c = new Check("promise 4, faults");
        c.town("", Check.fault(0, 0));
        c.town("   ", Check.fault(3, 0));
        c.town(";", Check.fault(0, 0));
        c.town("needs 1 1", Check.fault(0, 0));
        c.town(" nee", Check.fault(1, 0));
        c.town("Need 1 1", Check.fault(0, 0));
        c.town("tell 1=1", Check.fault(0, 0));
        c.town("need", Check.fault(4, 0));
        c.town("need 1", Check.fault(6, 0));
        c.town("need 1  ", Check.fault(8, 0));
        c.town("need 1 1;", Check.fault(9, 0));
        c.town("need 1 1 1", Check.fault(9, 0));
        c.town("need 1 1 talk 1 2 3", Check.fault(9, 0));
        c.town("need 1;1", Check.fault(6, 0));
        c.town("need a 1", Check.fault(5, 0));
        c.town("need 10 1", Check.fault(5, 1));
        c.town("need 9 0", Check.fault(7, 1));
        c.town("need 9 4", Check.fault(7, 1));
        c.town("need 000001 1", Check.fault(5, 1));
        c.town("need 1 99999999999999999999", Check.fault(7, 1));
        c.town("need -1 1", Check.fault(5, 0));
        c.town("need 1\0 1", Check.fault(6, 0));
        c.town("need 1\u00ff1", Check.fault(6, 0));
        c.town("need\t1 1", Check.fault(4, 0));
        c.town("deaf 10 1 2", Check.fault(5, 1));
        c.town("deaf 1 100 100", Check.fault(7, 1));
        c.town("deaf 1 5 4", Check.fault(9, 1));
        c.town("deaf 1 5 100", Check.fault(9, 1));
        c.town("deaf 1 5", Check.fault(8, 0));
        c.town("proud 3 3", Check.fault(8, 1));
        c.town("proud 3 10", Check.fault(8, 1));
        c.town("proud 10 3", Check.fault(6, 1));
        c.town("talk 0 0 1", Check.fault(7, 1));
        c.town("talk 0 1 0", Check.fault(9, 1));
        c.town("talk 0 1 100", Check.fault(9, 1));
        c.town("talk 0 10 100", Check.fault(7, 1));
        c.town("talk 12 10 100", Check.fault(5, 1));
        c.town("talk 0 1", Check.fault(8, 0));
        c.town("talk 10 1 1", Check.fault(5, 1));
        c.town("needz 1 1", Check.fault(0, 0));
        c.due("nothing came", c.x.count(0), 0);
    }

    private static String many(String clause, int times) {
        return (clause + ";").repeat(times).substring(0, (clause.length() + 1) * times - 1);
    }

    private static void townTooMany() {
        Check c = new Check("promise 4, too many");
        c.town(many("need1 1", 32), 0);
        c.town(many("need1 1", 33), Check.fault(256, 4));
        c.town(many("need1 1", 32) + ";  need", Check.fault(258, 4));
        c.town(many("need1 1", 32) + ";nee", Check.fault(256, 0));
        c.town(many("need1 1", 32) + ";", Check.fault(256, 0));
        c.town(many("talk0 1 1", 30), 30);
        c.town(many("talk0 1 1", 31), Check.fault(300, 4));
        c.town(many("talk0 1 1", 30) + ";need 1 1;talk 0 1 0", Check.fault(309, 4));
        c.town(many("deaf0 1 1", 12), 0).due("deafs", c.x.count(2), 12);
        c.town(many("deaf0 1 1", 13), Check.fault(120, 4));
        c.town(many("proud0 1", 12), 0).due("prouds", c.x.count(8), 12);
        c.town(many("proud0 1", 13), Check.fault(108, 4));
        c.town(many("proud0 1", 12) + ";" + many("deaf0 1 1", 12), 0);
        c.due("both", c.x.count(8) + c.x.count(2), 24);
        String full = many("talk0 1 10", 30) + ";need 1 1 " + " ".repeat(61);
        c.town(full, 30).due("a text of all", full.length(), 400);
    }

    private static void law() {
        Check c = new Check("promise 5");
        c.law("tell 1=1", 0).due("tape", c.x.count(7), 0).due("laws", c.x.count(1), 1);
        c.law("tell 1=", Check.fault(7, 0)).due("no tape", c.x.count(7), 0);
        c.due("laws stay", c.x.count(1), 1);
        c.law("tell1=1", 1);
        c.law("hush hour<5and from=1or to>=2", 2);
        c.law(" tell not not [ [ 1 = 1 ] or 2 > 1 ] ;hush 1>1", 3);
        c.law("tell 00001 - 1 * 2 / 3 <= 99999", 4);
        c.law("tell hour=from+to-believes*knows/mouths and shortest=rows or sees=0", 5);
        c.law("tell 1=1", -1).due("tape stays", c.x.count(7), 8);
        c.law("tell", -1).due("laws", c.x.count(1), 6).due("tape stays", c.x.count(7), 4);
        c.due("its bytes, too", c.x.town(), Check.fault(0, 0)).due("tape stays", c.x.count(7), 4);
    }

    /** What all calls about the tape answer behind a fault of a law, wherever it lies. */
    private static void lawFaultTape() {
        emptyBehind("", 0, 0);
        emptyBehind(" ".repeat(400), 400, 0);
        emptyBehind("\0".repeat(20), 0, 0);
        emptyBehind("tall 1=1", 0, 0);
        emptyBehind("  need 1 1", 2, 0);
        emptyBehind("tell 1=1;hush from+*to=1", 19, 0);
        emptyBehind("tell 123456=1;hush 1=1", 5, 1);
        emptyBehind("tell " + "[".repeat(11) + "1=1", 15, 2);
        emptyBehind("tell 1" + "+1".repeat(58) + "=1", 123, 3);
        emptyBehind(many("tell 1=1", 13), 108, 4);
        emptyBehind("tell 1=1;hush 1=", 16, 0);
        emptyBehind("tell 1=1" + " ".repeat(391) + "x", 399, 0);
        emptyBehind("tell 1=1;" + " ".repeat(391), 400, 0);
    }

    private static void emptyBehind(String text, int place, int kind) {
        Check c = new Check("promise 5, behind a fault");
        c.town("talk 0 1 1;talk 0 2 2", 2).law("tell to=1", 0);
        c.x.first(1);
        c.law(text, Check.fault(place, kind));
        c.due("tape", c.x.count(7), 0).due("laws", c.x.count(1), 1).due("talks", c.x.count(0), 2);
        c.due("no law more", c.x.tells(1, 0), -1);
        c.due("the law there was", c.x.tells(0, 0), 1).due("the law there was", c.x.tells(0, 1), 0);
        c.due("end", c.x.end(1), -1).due("end", c.x.end(0), 0).due("end", c.x.end(text.length() + 1), -1);
        c.due("law of nothing", c.x.law(), Check.fault(0, 0)).due("tape", c.x.count(7), 0);
        c.due("town of nothing", c.x.town(), Check.fault(0, 0));
        c.due("feed", c.x.feed(0, 0, 0, 0, 0), 20).due("end", c.x.end(0), 0);
        // The next text stands alone: nothing of the one with the fault is ahead of it or behind it.
        c.write("hush 1=1").due("law", c.x.law(), 1).due("tape", c.x.count(7), 0);
        c.due("the new law", c.x.tells(1, 0), 0).due("the new law", c.x.tells(1, 1), 0);
        c.write("talk 3 4 5").due("town", c.x.town(), 1);
    }

    /** A town's fault leaves the tape, so that law reads it; a law's doesn't, so that town has none. */
    private static void tapeOfTownAndLaw() {
        Check c = new Check("promises 4 and 5, the tape");
        c.write("tell 1=1").due("town", c.x.town(), Check.fault(0, 0)).due("tape", c.x.count(7), 8);
        c.due("law", c.x.law(), 0).due("tape", c.x.count(7), 0);
        c.write("talk 0 1 1").due("law", c.x.law(), Check.fault(0, 0)).due("tape", c.x.count(7), 0);
        c.due("town", c.x.town(), Check.fault(0, 0)).due("talks", c.x.count(0), 0);
        for (int k = 1; k < 6; k++) {
            c.write("tell 1=1").due("law", c.x.law(), k);
        }
        c.write("talk 0 1 1").due("six", c.x.law(), -1).due("tape stays", c.x.count(7), 10);
        c.due("feed goes on", c.x.feed(0x20202020, 0, 0, 0, 0), 30).due("end", c.x.end(14), 14);
        c.due("six", c.x.law(), -1).due("town", c.x.town(), 1).due("tape", c.x.count(7), 0);
    }

    private static void lawFaults() {
        Check c = new Check("promise 5, faults");
        c.law("", Check.fault(0, 0));
        c.law("  ", Check.fault(2, 0));
        c.law("talk 1 2 3", Check.fault(0, 0));
        c.law("tells 1=1", Check.fault(0, 0));
        c.law("tell", Check.fault(4, 0));
        c.law("tell 1", Check.fault(6, 0));
        c.law("tell 1=1;", Check.fault(9, 0));
        c.law("tell 1=1 hush 1=1", Check.fault(9, 0));
        c.law("tell 1=1 or", Check.fault(11, 0));
        c.law("tell 1=1 andfrom=1", Check.fault(9, 0));
        c.law("tell nothour=1", Check.fault(5, 0));
        c.law("tell houre=1", Check.fault(5, 0));
        c.law("tell hourz=1", Check.fault(5, 0));
        c.law("tell 1=1 orz 1=1", Check.fault(9, 0));
        c.law("tell Hour=1", Check.fault(5, 0));
        c.law("tell 1<2<3", Check.fault(8, 0));
        c.law("tell 1< =2", Check.fault(8, 0));
        c.law("tell 1=>2", Check.fault(7, 0));
        c.law("tell 1<>2", Check.fault(7, 0));
        c.law("tell 1==2", Check.fault(7, 0));
        c.law("tell 1+=2", Check.fault(7, 0));
        c.law("tell -1=2", Check.fault(5, 0));
        c.law("tell 1 2=2", Check.fault(7, 0));
        c.law("tell [1]=2", Check.fault(7, 0));
        c.law("tell [1=2", Check.fault(9, 0));
        c.law("tell 1=2]", Check.fault(8, 0));
        c.law("tell []", Check.fault(6, 0));
        c.law("tell (1=2)", Check.fault(5, 0));
        c.law("tell not", Check.fault(8, 0));
        c.law("tell not 1", Check.fault(10, 0));
        c.law("tell 1=not 1", Check.fault(7, 0));
        c.law("tell 1 and 1=1", Check.fault(7, 0));
        c.law("tell or 1=1", Check.fault(5, 0));
        c.law("tell 123456=1", Check.fault(5, 1));
        c.law("tell 1=000000", Check.fault(7, 1));
        c.law("tell 1=1\0", Check.fault(8, 0));
        c.law("tell 1=1;hush 1=1;talk", Check.fault(18, 0));
        c.due("none came", c.x.count(1), 0);
    }

    private static void lawTooMany() {
        Check c = new Check("promise 5, too many");
        c.law(many("tell 1=1", 13), Check.fault(108, 4));
        c.law(many("tell 1=1", 12) + "; hush", Check.fault(109, 4));
        c.law(many("tell 1=1", 12) + "; x", Check.fault(109, 0));
        c.law(many("tell 1=1", 12) + ";", Check.fault(108, 0));
        c.law("tell " + "[".repeat(11) + "1=1", Check.fault(15, 2));
        c.law("tell " + "not ".repeat(11) + "1=1", Check.fault(45, 2));
        c.law("tell " + "not[".repeat(5) + "not 1=1", Check.fault(25, 2));
        c.law("tell " + "[".repeat(10) + "1=1 or [1=1]" + "]".repeat(10), Check.fault(22, 2));
        c.law("tell " + "[".repeat(10) + "1=1" + "]".repeat(9), Check.fault(27, 0));
        // 59 numbers and a sign, so one more number is one too many.
        String left = "tell 1" + "+1".repeat(58);
        c.law(left + "=1", Check.fault(123, 3));
        c.law(left + "= 123456", Check.fault(124, 1));
        c.law(left + "=x", Check.fault(123, 0));
        c.law(left + "=", Check.fault(123, 0));
        c.law(left + "+1=1", Check.fault(124, 3));
        c.law(left + "+1<=1", Check.fault(124, 3));
        c.law(left + "+1x", Check.fault(124, 0));
        c.law(left + "+1+1", Check.fault(125, 3));
        // Twenty facts of three pieces, over several clauses, are just enough.
        c.law(many("tell 1=1 or 1=1", 10) + " or 1=1", Check.fault(163, 3));
        c.law(many("tell 1=1 or 1=1", 10), 0);
        c.law("tell 1" + "+1".repeat(57) + "=1", 1);
        c.law(many("tell 1=1", 12), 2);
        c.law("tell " + "[".repeat(10) + "1=1" + "]".repeat(10), 3);
        c.law("tell " + "not ".repeat(10) + "1=1 and " + "not[".repeat(5) + "1=1" + "]".repeat(5), 4);
    }

    /** Whether 0 (first) tells 1 at hour 1 by a text. */
    private static void tells(String text, int want) {
        Check c = new Check("promise 5, what holds");
        c.town("talk 0 1 1;talk 1 0 2;talk 1 2 3;talk 0 2 3;talk 2 1 4;talk 2 3 5", 6);
        c.x.first(1);
        c.law(text, 0);
        c.due("tells by '" + text + "'", c.x.tells(0, 0), want);
    }

    private static void lawNumbers() {
        tells("tell 1+2*3=7", 1);
        tells("tell 10-2-3=5", 1);
        tells("tell 100/7/2=7", 1);
        tells("tell 0-7/2=0-3", 1);
        tells("tell 0-3=0-7/2", 1);
        tells("tell 5/0=0", 1);
        tells("tell 5/0+1=1", 1);
        tells("tell 2*3/4*2=2", 1);
        tells("tell 1<1", 0);
        tells("tell 1<2", 1);
        tells("tell 1<=1", 1);
        tells("tell 2<=1", 0);
        tells("tell 1>=2", 0);
        tells("tell 1>=1", 1);
        tells("tell 1>1", 0);
        tells("tell 2>1", 1);
        tells("tell 1=2", 0);
        tells("tell 1=1 or 1=1 and 1=2", 1);
        tells("tell 1=2 and 1=2 or 1=1", 1);
        tells("tell [1=1 or 1=1] and 1=2", 0);
        tells("tell 1=2 and [1=2 or 1=1]", 0);
        tells("tell not 1=1 or 1=1", 1);
        tells("tell not [1=1 or 1=1]", 0);
        tells("tell not not 1=1", 1);
        tells("tell not 1=2 and 1=1", 1);
        // 65536 to the fourth goes round to 0, half of it is the least number.
        tells("tell 65536*65536*65536*65536=0", 1);
        tells("tell 65536*65536*65536*32768<0", 1);
        tells("tell 65536*65536*65536*32768-1>0", 1);
        tells("tell 65536*65536*65536*32768/0=0", 1);
        tells("hush 1=1", 0);
        tells("hush 1=2", 1);
        tells("hush 1=2;hush 1=1", 0);
        tells("tell 1=2;tell 1=1", 1);
        tells("tell 1=1;tell 1=2", 1);
        tells("tell 1=2;tell 1=2", 0);
        tells("tell 1=1;hush 1=1", 0);
        tells("hush 1=1;tell 1=1", 0);
        tells("hush 1=2;tell 1=2", 0);
        tells("hush 1=2;tell 1=1", 1);
    }

    /** A talk tells just by the text that says its words right. */
    private static void word(int talk, String words) {
        Check c = new Check("promise 5, words of talk " + talk);
        c.town("need 2 1;talk 0 1 1;talk 4 1 2;talk 1 0 3;talk 1 2 4;talk 2 0 5;talk 0 3 6;talk 2 3 6;"
                + "talk 2 1 7;talk 3 2 9;deaf 3 6 6;talk 2 3 10;talk 3 2 11", 11);
        c.x.first(17);
        c.law("tell hour<" + c.x.talks(talk, 2) + " or " + words, 0);
        c.due("tells with " + words, c.x.tells(0, talk), 1);
        Check d = new Check("promise 5, words of talk " + talk);
        d.town("need 2 1;talk 0 1 1;talk 4 1 2;talk 1 0 3;talk 1 2 4;talk 2 0 5;talk 0 3 6;talk 2 3 6;"
                + "talk 2 1 7;talk 3 2 9;deaf 3 6 6;talk 2 3 10;talk 3 2 11", 11);
        d.x.first(17);
        d.law("tell hour<" + c.x.talks(talk, 2) + " or not [" + words + "]", 0);
        d.due("does not tell without " + words, d.x.tells(0, talk), 0);
    }

    private static void lawWords() {
        word(0, "hour=1 and from=0 and to=1");
        word(0, "believes=1 and knows=0 and sees=1 and mouths=0 and shortest=0 and rows=0");
        // 1 has {0} and {4}, and believes it behind hour 2; 0 sees it.
        word(2, "believes=1 and knows=1 and sees=0 and mouths=2 and shortest=1 and rows=2");
        word(3, "believes=1 and knows=0 and from=1 and to=2");
        // 2 has {0, 1} and {1, 4}, needs one, and was told by one.
        word(4, "believes=1 and mouths=1 and shortest=2 and rows=2 and sees=0");
        // 0, a first one, has heard 1 and 2, and has no rows all the same.
        word(5, "believes=1 and mouths=2 and shortest=0 and rows=0 and sees=1");
        // 3 was deaf at hour 6: talk 8 has nobody who could tell, talk 9 finds him without it.
        word(9, "knows=0 and mouths=1 and hour=10");
        // 3 has {0, 1, 2} and {1, 2, 4}, which don't part.
        word(10, "believes=0 and knows=1 and mouths=1 and shortest=3 and rows=2");
    }
}
