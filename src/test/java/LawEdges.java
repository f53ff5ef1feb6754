/** The edges of a LAW's text, its FAULTS, its WORDS and numbers: part I of the document, and promise 5. */
final class LawEdges {
    private LawEdges() {
    }

    static void run() {
        bytesAndClauses();
        clause();
        testAndPart();
        fact();
        signs();
        sumAndTerm();
        value();
        wordsAreWhole();
        wordsOfTheTalk();
        believesAndKnows();
        mouths();
        shortestAndRows();
        sees();
        division();
        goesRound();
        blanks();
        depth();
        pieces();
        faultPlaces();
        faultsOfOnePlace();
        lawTaken();
        lawFault();
        sixLaws();
    }

    private static final String ONES_58 = "tell 1" + "+1".repeat(57);

    private static String many(String clause, int times) {
        return TownEdges.many(clause, times);
    }

    private static Check fresh(Check c) {
        return new Check(c.name());
    }

    /** A text is a law (0) or has a fault, on an object of its own. */
    private static void reads(Check c, String text, int want) {
        fresh(c).law(text, want);
    }

    /** Whether 0, who sees it, tells 1 at hour 1 by a law. */
    private static void lets(Check c, String law, int want) {
        Check d = fresh(c);
        d.town("talk 0 1 1", 1).law(law, 0);
        d.x.first(1);
        d.due("tells by '" + law + "'", d.x.tells(0, 0), want);
    }

    /** A word of a talk has a value, all talks of other hours being told. */
    private static void word(Check c, String town, int talks, int first, int talk, String word, int value) {
        Check d = fresh(c);
        d.town(town, talks);
        d.x.first(first);
        int hour = d.x.talks(talk, 2);
        d.law("tell not hour=" + hour + ";tell " + word + "=" + value, 0);
        d.law("tell not hour=" + hour + ";tell not " + word + "=" + value, 1);
        d.due(word + " of talk " + talk + " is " + value, d.x.tells(0, talk), 1);
        d.due(word + " of talk " + talk + " is nothing but " + value, d.x.tells(1, talk), 0);
    }

    private static void bytesAndClauses() {
        Check c = Sentence.of("I", "LAWS 0 to 5: texts likewise, 12 CLAUSES at most:");
        for (int k = 0; k <= 5; k++) {
            c.law("tell 1=1", k).due("laws", c.x.count(1), k + 1);
        }
        c.law("tell 1=1", -1).due("laws", c.x.count(1), 6);
        c.due("law 5", c.x.last(5), 0).due("law 6", c.x.last(6), -1).due("law -1", c.x.last(-1), -1);
        c = Sentence.of("I", "LAWS 0 to 5: texts likewise, 12 CLAUSES at most:");
        String most = "tell 1=" + " ".repeat(392);
        c.due("its length", most.length(), 399);
        reads(c, most + "1", 0);
        reads(c, most + "x", Check.fault(399, 0));
        reads(c, most + " ", Check.fault(400, 0));
        reads(c, "", Check.fault(0, 0));
        // Each piece that wants more behind it, as the last one of a whole tape.
        String[] ends = {"tell 1<", "tell 1>", "tell 1=", "tell 1<=", "tell 1>=", "tell 1+", "tell 1-", "tell 1*", "tell 1/", "tell [",
            "tell not", "tell", "hush", "tell 1=1;", "tell 1=1 or", "tell 1=1 and", "tell [1=1", "tell hour", "tell 1"};
        for (String end : ends) {
            reads(c, " ".repeat(400 - end.length()) + end, Check.fault(400, 0));
        }
        reads(c, " ".repeat(391) + "tell 1<to", 0);
        reads(c, " ".repeat(388) + "tell 1<99999", 0);
        reads(c, " ".repeat(390) + "tell [1=1]", 0);
        reads(c, many("tell 1=1", 12), 0);
        reads(c, many("tell 1=1", 13), Check.fault(108, 4));
        reads(c, many("hush 1=2", 11) + ";tell 1=1", 0);
        reads(c, many("hush 1=2", 12) + ";tell 1=1", Check.fault(108, 4));
        lets(c, many("hush 1=2", 11) + ";hush 1=1", 0);
        lets(c, many("tell 1=2", 11) + ";tell 1=1", 1);
        lets(c, many("tell 1=2", 12), 0);
    }

    private static void clause() {
        Check c = Sentence.of("I", "tell TEST | hush TEST.");
        reads(c, "tell 1=1", 0);
        reads(c, "hush 1=1", 0);
        reads(c, "tell 1=1;hush 1=1", 0);
        reads(c, "tell", Check.fault(4, 0));
        reads(c, "hush;tell 1=1", Check.fault(4, 0));
        reads(c, "1=1", Check.fault(0, 0));
        reads(c, "tell tell 1=1", Check.fault(5, 0));
        reads(c, "tell 1=1 hush 1=1", Check.fault(9, 0));
        reads(c, "tell 1=1;", Check.fault(9, 0));
        reads(c, "tell 1=1;;", Check.fault(9, 0));
        reads(c, "tell 1=1;need 1 1", Check.fault(9, 0));
    }

    private static void testAndPart() {
        Check c = Sentence.of("I", "TEST: PART { or PART }.");
        lets(c, "tell 1=1", 1);
        lets(c, "tell 1=2 or 1=1", 1);
        lets(c, "tell 1=2 or 1=2 or 1=2", 0);
        lets(c, "tell 1=2 or 1=2 or 1=1", 1);
        lets(c, "tell 1=1 or 1=2 and 1=2", 1);
        lets(c, "tell 1=2 and 1=2 or 1=1", 1);
        reads(c, "tell or 1=1", Check.fault(5, 0));
        reads(c, "tell 1=1 or", Check.fault(11, 0));
        reads(c, "tell 1=1 or or 1=1", Check.fault(12, 0));
        c = Sentence.of("I", "PART: FACT { and FACT }.");
        lets(c, "tell 1=1 and 1=1 and 1=1", 1);
        lets(c, "tell 1=1 and 1=1 and 1=2", 0);
        lets(c, "tell 1=2 and 1=1", 0);
        lets(c, "tell 1=1 and 1=2 or 1=1 and 1=1", 1);
        lets(c, "tell 1=1 and 1=2 or 1=2 and 1=1", 0);
        reads(c, "tell and 1=1", Check.fault(5, 0));
        reads(c, "tell 1=1 and", Check.fault(12, 0));
        reads(c, "tell 1=1 and or 1=1", Check.fault(13, 0));
    }

    private static void fact() {
        Check c = Sentence.of("I", "FACT: not FACT | [ TEST ] (these brackets are signs)");
        lets(c, "tell not 1=1", 0);
        lets(c, "tell not 1=2", 1);
        lets(c, "tell not 1=2 and 1=2", 0);
        lets(c, "tell not 1=1 or 1=1", 1);
        lets(c, "tell not [1=1 or 1=1]", 0);
        lets(c, "tell not not not 1=1", 0);
        lets(c, "tell [1=1]", 1);
        lets(c, "tell [1=1 or 1=1] and 1=2", 0);
        lets(c, "tell 1=2 and [1=2 or 1=1]", 0);
        lets(c, "tell not[not[1=1]]", 1);
        reads(c, "tell []", Check.fault(6, 0));
        reads(c, "tell [1=1", Check.fault(9, 0));
        reads(c, "tell 1=1]", Check.fault(8, 0));
        reads(c, "tell [1=1]]", Check.fault(10, 0));
        reads(c, "tell [1]=1", Check.fault(7, 0));
        reads(c, "tell [1+1]*2=4", Check.fault(9, 0));
        reads(c, "tell (1=1)", Check.fault(5, 0));
        reads(c, "tell not", Check.fault(8, 0));
        reads(c, "tell 1=not 1", Check.fault(7, 0));
        reads(c, "tell 1 not =1", Check.fault(7, 0));
    }

    private static void signs() {
        Check c = Sentence.of("I", "| SUM SIGN SUM, SIGN one of < <= = >= >.");
        String[] signs = {"<", "<=", "=", ">=", ">"};
        int[][] due = {{1, 0, 0}, {1, 1, 0}, {0, 1, 0}, {0, 1, 1}, {0, 0, 1}};
        for (int s = 0; s < signs.length; s++) {
            for (int left = 0; left < 3; left++) {
                lets(c, "tell " + left + signs[s] + "1", due[s][left]);
                lets(c, "tell 0-1+" + left + signs[s] + "0", due[s][left]);
            }
        }
        String[] held = {"1<2", "1<=1", "1=1", "1>=1", "2>1"};
        for (String fact : held) {
            lets(c, "tell " + fact + " and 1=1", 1);
            lets(c, "tell 1=1 and " + fact, 1);
            lets(c, "tell not " + fact, 0);
            lets(c, "tell " + fact + " and not [1=2 or 2<1]", 1);
        }
        String[] wrong = {"==", "=<", "=>", "<>", "><", "<<", "<==", ">>", "= =", "< =", "> ="};
        int[] place = {7, 7, 7, 7, 7, 7, 8, 7, 8, 8, 8};
        for (int i = 0; i < wrong.length; i++) {
            reads(c, "tell 1" + wrong[i] + "1", Check.fault(place[i], 0));
        }
        reads(c, "tell 1", Check.fault(6, 0));
        reads(c, "tell 1=", Check.fault(7, 0));
        reads(c, "tell =1", Check.fault(5, 0));
        reads(c, "tell 1<", Check.fault(7, 0));
        reads(c, "tell 1<=", Check.fault(8, 0));
        reads(c, "tell 1=1=1", Check.fault(8, 0));
        reads(c, "tell 1!1", Check.fault(6, 0));
    }

    private static void sumAndTerm() {
        Check c = Sentence.of("I", "SUM: TERM { (+ or -) TERM }.");
        lets(c, "tell 5=5", 1);
        lets(c, "tell 10-2-3=5", 1);
        lets(c, "tell 10-2+3=11", 1);
        lets(c, "tell 1+2*3-4/2=5", 1);
        lets(c, "tell 0-1<0", 1);
        reads(c, "tell -1=1", Check.fault(5, 0));
        reads(c, "tell 1=+1", Check.fault(7, 0));
        reads(c, "tell 1+=1", Check.fault(7, 0));
        reads(c, "tell 1+-1=1", Check.fault(7, 0));
        c = Sentence.of("I", "TERM: VALUE { (* or /) VALUE }.");
        lets(c, "tell 7=7", 1);
        lets(c, "tell 100/7/2=7", 1);
        lets(c, "tell 7/2*2=6", 1);
        lets(c, "tell 2*7/2=7", 1);
        reads(c, "tell *1=1", Check.fault(5, 0));
        reads(c, "tell 1*=1", Check.fault(7, 0));
        reads(c, "tell 1/=1", Check.fault(7, 0));
        reads(c, "tell 1*/1=1", Check.fault(7, 0));
        reads(c, "tell 5%2=1", Check.fault(6, 0));
    }

    private static void value() {
        Check c = Sentence.of("I", "VALUE: NUMBER (1 to 5 digits, as far as digits go on) | WORD.");
        lets(c, "tell 0=00000", 1);
        lets(c, "tell 00009=9", 1);
        lets(c, "tell 99999=99998+1", 1);
        lets(c, "tell 99999+1=10000*10", 1);
        reads(c, "tell 9hour=9", Check.fault(6, 0));
        reads(c, "tell 000000=0", Check.fault(5, 1));
        reads(c, "tell 100000=0", Check.fault(5, 1));
        reads(c, "tell 1=123456", Check.fault(7, 1));
        reads(c, "tell 1=" + "0".repeat(393), Check.fault(7, 1));
        reads(c, "tell 1=4294967297", Check.fault(7, 1));
        reads(c, "tell 1 2=12", Check.fault(7, 0));
        reads(c, "tell 1=1 2", Check.fault(9, 0));
        reads(c, "tell 12345 6=1", Check.fault(11, 0));
    }

    private static void wordsAreWhole() {
        Check c = Sentence.of("I", "WORDS (small letters, as far as these go on) of a TALK:");
        String[] words = {"hour", "from", "to", "believes", "knows", "mouths", "shortest", "rows", "sees"};
        for (String word : words) {
            int end = 5 + word.length();
            reads(c, "tell " + word + ">=0", 0);
            reads(c, "tell 1>=" + word, 0);
            reads(c, "tell " + word + "s>=0", Check.fault(5, 0));
            reads(c, "tell x" + word + ">=0", Check.fault(5, 0));
            reads(c, "tell " + word.substring(0, word.length() - 1) + ">=0", Check.fault(5, 0));
            reads(c, "tell " + word.substring(0, 1).toUpperCase() + word.substring(1) + ">=0", Check.fault(5, 0));
            reads(c, "tell " + word + "1>=0", Check.fault(end, 0));
            reads(c, "tell " + word + " " + word + ">=0", Check.fault(end + 1, 0));
            reads(c, "tell " + word + "or>=0", Check.fault(5, 0));
        }
        for (int b : new int[] {'a', 'z', '`', '{', '@', 'A', 'Z', '[', '/', ':', '_'}) {
            boolean letter = b == 'a' || b == 'z';
            boolean joins = b == '/';
            reads(c, "tell hour" + (char) b + "=1", Check.fault(letter ? 5 : joins ? 10 : 9, 0));
            fresh(c).town("need" + (char) b + "1 1", Check.fault(letter ? 0 : 4, 0));
        }
        reads(c, "tell 1=1or 1=1and 1=1", 0);
        reads(c, "tell 1=1orhour=1", Check.fault(8, 0));
        reads(c, "tell 1=1andnot 1=1", Check.fault(8, 0));
        reads(c, "tell nothour=1", Check.fault(5, 0));
        reads(c, "tellhour=1", Check.fault(0, 0));
        reads(c, "tell1=1", 0);
        reads(c, "tell 1=1 OR 1=1", Check.fault(9, 0));
    }

    private static void wordsOfTheTalk() {
        Check c = Sentence.of("I", "hour, from, to (the PEOPLE's numbers),");
        String town = "talk 0 9 1;talk 9 0 99;talk 4 5 50";
        int[][] due = {{1, 0, 9}, {99, 9, 0}, {50, 4, 5}};
        for (int t = 0; t < 3; t++) {
            word(c, town, 3, 513 + 16, t, "hour", due[t][0]);
            word(c, town, 3, 513 + 16, t, "from", due[t][1]);
            word(c, town, 3, 513 + 16, t, "to", due[t][2]);
        }
    }

    private static void believesAndKnows() {
        Check c = Sentence.of("I", "believes (1 if from believes it by then, else 0),");
        // 2 believes it from hour 3 on: what he says at 3 is said without.
        String town = "talk 0 2 2;talk 1 2 3;talk 2 5 3;talk 2 6 4;talk 0 7 1;talk 2 6 99";
        word(c, town, 6, 3, 2, "believes", 0);
        word(c, town, 6, 3, 3, "believes", 1);
        word(c, town, 6, 3, 4, "believes", 1);
        word(c, town, 6, 3, 5, "believes", 1);
        c = Sentence.of("I", "knows (likewise of to),");
        town = "talk 0 2 2;talk 1 2 3;talk 3 2 3;talk 3 2 4;talk 3 0 1;talk 3 5 4";
        word(c, town, 6, 11, 2, "knows", 0);
        word(c, town, 6, 11, 3, "knows", 1);
        word(c, town, 6, 11, 4, "knows", 1);
        word(c, town, 6, 11, 5, "knows", 0);
    }

    private static void mouths() {
        Check c = Sentence.of("I", "mouths (how many PEOPLE have told from by then so that he HEARD them),");
        // 9 hears 0 (twice) and 1, is deaf when 2 tells him, and too proud for 3.
        String town = "talk 0 9 2;talk 0 9 3;talk 1 9 4;talk 9 8 3;talk 9 5 4;talk 9 6 5;talk 2 9 6;deaf 9 6 6;"
                + "talk 3 9 5;proud 9 3;talk 9 7 7";
        word(c, town, 9, 15, 3, "mouths", 1);
        word(c, town, 9, 15, 4, "mouths", 1);
        word(c, town, 9, 15, 5, "mouths", 2);
        word(c, town, 9, 15, 8, "mouths", 2);
        word(c, town, 9, 15, 0, "mouths", 0);
        // 2 tells 1 nothing new, and is heard all the same.
        word(c, "talk 0 1 1;talk 1 2 2;talk 2 1 3;talk 1 3 4", 4, 1, 3, "mouths", 2);
        word(c, "talk 1 0 1;talk 0 2 2", 2, 3, 1, "mouths", 1);
        StringBuilder all = new StringBuilder("talk 9 0 2");
        for (int p = 0; p < 9; p++) {
            all.append(";talk ").append(p).append(" 9 1");
        }
        word(c, all.toString(), 10, 511, 0, "mouths", 9);
    }

    private static void shortestAndRows() {
        Check c = Sentence.of("I", "shortest (how many mouths the shortest ROW has by which from has it; 0 if he has none),");
        String town = "talk 0 1 1;talk 1 2 2;talk 2 3 3;talk 0 3 4;talk 3 4 4;talk 3 5 5";
        word(c, town, 6, 1, 0, "shortest", 0);
        word(c, town, 6, 1, 1, "shortest", 1);
        word(c, town, 6, 1, 4, "shortest", 3);
        word(c, town, 6, 1, 5, "shortest", 1);
        StringBuilder chain = new StringBuilder("talk 9 0 10");
        for (int p = 0; p < 9; p++) {
            chain.append(";talk ").append(p).append(' ').append(p + 1).append(' ').append(p + 1);
        }
        word(c, chain.toString(), 10, 1, 0, "shortest", 9);
        c = Sentence.of("I", "rows (ROWS by which from has it),");
        word(c, town, 6, 1, 0, "rows", 0);
        word(c, town, 6, 1, 4, "rows", 1);
        word(c, town, 6, 1, 5, "rows", 2);
        word(c, "talk 0 1 1;talk 0 1 2;talk 1 2 3", 3, 1, 2, "rows", 1);
    }

    private static void sees() {
        Check c = Sentence.of("I", "sees (1 if from is a FIRST one, else 0).");
        word(c, "talk 0 1 1;talk 1 2 2", 2, 1, 0, "sees", 1);
        word(c, "talk 0 1 1;talk 1 2 2", 2, 1, 1, "sees", 0);
        word(c, "talk 0 1 1;talk 1 2 2", 2, 3, 1, "sees", 1);
        word(c, "talk 9 1 99", 1, 512, 0, "sees", 1);
    }

    private static void division() {
        Check c = Sentence.of("I", "/ is towards 0, 0 by 0;");
        lets(c, "tell 7/2=3", 1);
        lets(c, "tell 1/2=0", 1);
        lets(c, "tell 0/5=0", 1);
        lets(c, "tell 5/0=0", 1);
        lets(c, "tell 0/0=0", 1);
        lets(c, "tell 5/0*3+1=1", 1);
        lets(c, "tell 5/from=0", 1);
        lets(c, "tell 1/0<1 and 1/0>=0", 1);
        // The least number by 3 leaves 2 towards 0, and would leave 1 less towards the lower one.
        String least = "65536*65536*65536*32768";
        lets(c, "tell " + least + "/3*3-" + least + "=2", 1);
        lets(c, "tell " + least + "/0=0", 1);
        lets(c, "tell " + least + "/1=" + least, 1);
    }

    private static void goesRound() {
        Check c = Sentence.of("I", "all goes round in 64 bits.");
        String least = "65536*65536*65536*32768";
        lets(c, "tell 65536*65536*65536*65536=0", 1);
        lets(c, "tell 65536*65536>0", 1);
        lets(c, "tell 65536*32768>0", 1);
        lets(c, "tell 65536*65536*65536*32767>0", 1);
        lets(c, "tell " + least + "<0", 1);
        lets(c, "tell " + least + "-1>0", 1);
        lets(c, "tell " + least + "-1+1<0", 1);
        lets(c, "tell " + least + "+" + least + "=0", 1);
        lets(c, "tell 0-" + least + "=" + least, 1);
        lets(c, "tell " + least + "-1>" + least, 1);
        lets(c, "tell " + least + "<0-1", 1);
        // 99999 to the fourth is 99996000059999600001; of 2 to the 64th the rest is 7762279691451841921.
        lets(c, "tell 99999*99999*99999*99999/65536/65536=27577*65536+10304", 1);
        lets(c, "tell 99999*99999*99999*99999-99999*99999*99999*99999/65536*65536=15745", 1);
    }

    private static void blanks() {
        Check c = Sentence.of("I", "Blanks (32) stand between as one likes.");
        lets(c, "tell1=1", 1);
        lets(c, "  tell  1  +  0  <=  1  and  not  [  1  =  2  ]  ;  hush  1  =  2  ", 1);
        lets(c, "tell[1=1]and[1=1]or not[1=1];hush 1=2", 1);
        lets(c, " ".repeat(392) + "tell 1=1", 1);
        fresh(c).town(" need  1  1 ; talk  0  1  1 ", 1).town("need1 1;talk0 1 1", 1).town("need 11;talk 0 1 1", Check.fault(5, 1));
        int[] others = {0, 9, 10, 11, 12, 13, 31, 33, 95, 127, 128, 160, 255};
        for (int b : others) {
            reads(c, "tell" + (char) b + "1=1", Check.fault(4, 0));
            reads(c, "tell 1=1" + (char) b, Check.fault(8, 0));
            fresh(c).town("need" + (char) b + "1 1", Check.fault(4, 0)).town("need 1 1" + (char) b, Check.fault(8, 0));
        }
        reads(c, "te ll 1=1", Check.fault(0, 0));
        reads(c, "tell ho ur=1", Check.fault(5, 0));
        reads(c, "tell 1< =1", Check.fault(8, 0));
    }

    private static void depth() {
        Check c = Sentence.of("I", "[ and not lie within one another 10 deep at most;");
        String ten = "[".repeat(10) + "1=1" + "]".repeat(10);
        lets(c, "tell " + ten, 1);
        lets(c, "tell " + ten + " and " + ten + " or " + ten + ";tell " + ten, 1);
        lets(c, "tell " + "not ".repeat(10) + "1=1", 1);
        lets(c, "tell " + "not ".repeat(9) + "1=1", 0);
        lets(c, "tell " + "not ".repeat(10) + "1=1 and " + "not[".repeat(5) + "1=1" + "]".repeat(5), 0);
        lets(c, "tell " + "not[".repeat(5) + "1=2" + "]".repeat(5), 1);
        c = Sentence.of("I", "2 too deep (at the sign that opens, or the word not);");
        reads(c, "tell " + "[".repeat(11) + "1=1" + "]".repeat(11), Check.fault(15, 2));
        reads(c, "tell " + "not ".repeat(11) + "1=1", Check.fault(45, 2));
        reads(c, "tell " + "not[".repeat(5) + "not 1=1" + "]".repeat(5), Check.fault(25, 2));
        reads(c, "tell " + "not[".repeat(5) + " [1=1]" + "]".repeat(5), Check.fault(26, 2));
        reads(c, "tell " + "[".repeat(10) + "1=1 or  not 1=1" + "]".repeat(10), Check.fault(23, 2));
        reads(c, "tell " + "[".repeat(10) + "1=1] and [[1=1", Check.fault(25, 2));
        reads(c, "tell " + "[".repeat(11), Check.fault(15, 2));
        reads(c, "tell " + "[".repeat(10), Check.fault(15, 0));
        reads(c, "tell " + "[".repeat(395), Check.fault(15, 2));
        reads(c, "hush " + "not ".repeat(98), Check.fault(45, 2));
    }

    private static void pieces() {
        Check c = Sentence.of("I", "at most 60 VALUES and FACTS made of a SIGN, together.");
        lets(c, ONES_58 + "=58", 1);
        c.law(ONES_58 + "=1", 0).law(ONES_58 + "=1", 1).law(ONES_58 + "+1=1", Check.fault(123, 3)).law(ONES_58 + "=1", 2);
        reads(c, many("tell 1=1 or 1=1", 10), 0);
        reads(c, many("tell 1=1 or 1=1", 10) + ";hush 1=1", Check.fault(165, 3));
        reads(c, "tell to" + "+to".repeat(57) + "=to", 0);
        reads(c, "tell to" + "+to".repeat(58) + "=to", Check.fault(182, 3));
        // not and brackets are no VALUES and no FACTS made of a SIGN.
        reads(c, many("tell not[1=1 or not[1=1]]", 10), 0);
        c = Sentence.of("I", "3 one VALUE or FACT too many (at its first byte; of a FACT at its SIGN);");
        reads(c, ONES_58 + "+1= 1", Check.fault(124, 3));
        reads(c, ONES_58 + "+1=12345", Check.fault(123, 3));
        reads(c, ONES_58 + "+1=hour", Check.fault(123, 3));
        reads(c, ONES_58 + "+1+1=1", Check.fault(124, 3));
        reads(c, ONES_58 + "+1+1 <=1", Check.fault(125, 3));
        reads(c, ONES_58 + "+1+1+1=1", Check.fault(125, 3));
        reads(c, ONES_58 + "+1+1", Check.fault(124, 0));
        reads(c, ONES_58 + "=1 and 2", Check.fault(127, 3));
        reads(c, ONES_58 + "=1 and [ 2", Check.fault(129, 3));
    }

    private static void faultPlaces() {
        Check c = Sentence.of("I", "FAULTS, the first along the text, 1 + 8 * its place and:");
        reads(c, "tell 123456=x", Check.fault(5, 1));
        reads(c, "tell x=123456", Check.fault(5, 0));
        reads(c, "tell " + "[".repeat(11) + "x", Check.fault(15, 2));
        reads(c, ONES_58 + "+1=1;x", Check.fault(123, 3));
        reads(c, many("tell 1=1", 13) + ";x", Check.fault(108, 4));
        reads(c, many("tell 1=1", 12) + "x", Check.fault(107, 0));
        c = Sentence.of("I", "4 one CLAUSE too many, a 31st TALK, a 13th deaf or proud (at its first byte).");
        reads(c, many("tell 1=1", 12) + ";  hush", Check.fault(110, 4));
        reads(c, many("tell 1=1", 12) + ";hush x", Check.fault(108, 4));
    }

    private static void faultsOfOnePlace() {
        Check c = Sentence.of("I", "Of one place the least.");
        reads(c, many("tell 1=1", 12) + ";", Check.fault(108, 0));
        reads(c, many("tell 1=1", 12) + ";need", Check.fault(108, 0));
        reads(c, many("tell 1=1", 12) + ";[", Check.fault(108, 0));
        reads(c, ONES_58 + "+1=123456", Check.fault(123, 1));
        reads(c, ONES_58 + "+1=x", Check.fault(123, 0));
        reads(c, ONES_58 + "+1=", Check.fault(123, 0));
        reads(c, ONES_58 + "+1+1!", Check.fault(124, 0));
        reads(c, ONES_58 + "+1+1 123456", Check.fault(125, 0));
        reads(c, "tell " + "[".repeat(10) + "1=[", Check.fault(17, 0));
        reads(c, "tell " + "[".repeat(10) + "1=not 1", Check.fault(17, 0));
        reads(c, "tell " + "[".repeat(10) + "1=1[", Check.fault(18, 0));
        reads(c, "tell 1=1 123456", Check.fault(9, 0));
    }

    private static void lawTaken() {
        Check c = Sentence.of("5", "The TAPE, which is empty then, is a LAW: its number;");
        c.town("talk 0 1 1;talk 0 2 2;talk 0 3 3", 3);
        c.x.first(1);
        for (int k = 0; k <= 5; k++) {
            c.law("tell to=" + k, k).due("tape", c.x.count(7), 0).due("laws", c.x.count(1), k + 1);
            c.due("nothing is left of it", c.x.end(1), -1);
        }
        for (int k = 0; k <= 5; k++) {
            for (int t = 0; t < 3; t++) {
                c.due("law " + k + ", talk " + t, c.x.tells(k, t), k == t + 1 ? 1 : 0);
            }
        }
        c.due("no law 6", c.x.tells(6, 0), -1).due("talks", c.x.count(0), 3);
    }

    private static void lawFault() {
        Check c = Sentence.of("5", "-2 - its FAULT;");
        String[] texts = {"", "x", "tell 1=1;hush 1=1;", "tell 123456=1", "hush 1=1;tell " + "[".repeat(11),
            ONES_58 + "+1=1", many("hush 1=1", 13)};
        int[] due = {Check.fault(0, 0), Check.fault(0, 0), Check.fault(18, 0), Check.fault(5, 1), Check.fault(24, 2),
            Check.fault(123, 3), Check.fault(108, 4)};
        for (int i = 0; i < texts.length; i++) {
            String text = texts[i];
            Twins.like(c, x -> {
                Twins.lively(x);
                Twins.text(x, text);
            }, "law of '" + text + "'", TwoMouths::law, due[i], x -> x.end(0));
        }
        c.town("talk 0 1 1;talk 0 2 2", 2);
        c.x.first(1);
        c.law("hush 1=1;hush", Check.fault(13, 0)).law("tell to=2", 0);
        c.due("nothing of the one with the fault", c.x.tells(0, 1), 1).due("its own", c.x.tells(0, 0), 0);
        c.law("tell to=1;tell", Check.fault(14, 0)).due("the law there was", c.x.tells(0, 0), 0);
        for (int i = 0; i < 20; i++) {
            c.law(ONES_58 + "+1=1", Check.fault(123, 3));
        }
        c.law("hush to=2", 1).due("behind many faults", c.x.tells(1, 0), 1).due("behind many faults", c.x.tells(1, 1), 0);
    }

    private static void sixLaws() {
        Check c = Sentence.of("5", "NONE, and nothing happens: there are 6.");
        String[] texts = {"tell 1=1", "hush 1=1", "x", "", "talk 1 2 3;need 1 1", " ".repeat(400)};
        for (String text : texts) {
            Twins.stays(c, x -> {
                Twins.lively(x);
                for (int k = 2; k < 6; k++) {
                    Twins.text(x, "tell hour<" + k);
                    x.law();
                }
                Twins.text(x, text);
            }, "law of '" + text + "' behind six", TwoMouths::law, -1);
        }
    }
}
