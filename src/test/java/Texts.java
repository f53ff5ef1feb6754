import java.util.Random;

/** Towns and laws by chance, right ones and ones that something was done to. */
final class Texts {
    private static final String[] WORDS = {"hour", "from", "to", "believes", "knows", "mouths",
        "shortest", "rows", "sees"};
    private static final String[] SIGNS = {"<", "<=", "=", ">=", ">"};
    private static final String[] BITS = {"need", "deaf", "proud", "talk", "tell", "hush", "and", "or",
        "not", "[", "]", ";", " ", "  ", "<", "<=", "=", ">", ">=", "+", "-", "*", "/", "0", "1", "9",
        "10", "99", "100", "00001", "000001", "123456", "x", "talks", "nothour", "\0", "A", "\u00ff",
        "hour", "rows", "3", "4", "not not not not", "[[[[[[[", "1+1+1+1+1"};

    private final Random chance;

    Texts(Random chance) {
        this.chance = chance;
    }

    int upTo(int n) {
        return chance.nextInt(n + 1);
    }

    private <T> T one(T[] of) {
        return of[chance.nextInt(of.length)];
    }

    private String gap() {
        return chance.nextInt(6) == 0 ? "  " : " ";
    }

    private String unlike(int people) {
        int who = chance.nextInt(people);
        int to = (who + 1 + chance.nextInt(people - 1)) % people;
        return gap() + who + gap() + to;
    }

    private String townClause(int people, int hours) {
        int kind = chance.nextInt(24);
        if (kind == 0) {
            return "deaf " + chance.nextInt(people) + gap() + chance.nextInt(1 + hours / 2) + gap()
                    + (hours / 2 + chance.nextInt(1 + hours / 2));
        }
        if (kind == 1) {
            return "proud" + unlike(people);
        }
        if (kind <= 4) {
            return "need" + gap() + chance.nextInt(people) + gap() + (1 + chance.nextInt(3));
        }
        return "talk" + unlike(people) + gap() + (1 + chance.nextInt(hours));
    }

    String town() {
        int people = 3 + chance.nextInt(8);
        int hours = chance.nextBoolean() ? 4 + chance.nextInt(20) : 99;
        int clauses = 1 + chance.nextInt(32);
        StringBuilder text = new StringBuilder(townClause(people, hours));
        for (int i = 1; i < clauses; i++) {
            String clause = townClause(people, hours);
            if (text.length() + clause.length() < 399) {
                text.append(";").append(clause);
            }
        }
        return hurt(text, 4);
    }

    /** A town in which much is told: nearly all talks, most of them one behind the other. */
    String livelyTown() {
        int people = 4 + chance.nextInt(7);
        StringBuilder text = new StringBuilder("need" + chance.nextInt(people) + gap() + 3);
        text.append(";need").append(chance.nextInt(people)).append(' ').append(1 + chance.nextInt(3));
        int hour = 1;
        for (int i = 0; i < 30; i++) {
            hour = Math.min(99, hour + chance.nextInt(3));
            int when = chance.nextInt(5) == 0 ? 1 + chance.nextInt(99) : hour;
            String clause = ";talk" + unlike(people).strip() + " " + when;
            if (text.length() + clause.length() < 399) {
                text.append(clause);
            }
        }
        return text.toString();
    }

    /** A law that mostly lets tell. */
    String mildLaw() {
        String[] all = {"tell 1=1", "hush 1=0", "tell hour>0", "tell rows+sees>0", "tell believes=1",
            "hush knows=1", "tell shortest<4", "tell mouths>1 or sees=1", "hush from>to and hour/2*2=hour",
            "hush rows>5", "tell not [from=1 or to=1]", "tell sees=1;tell rows>1", "hush mouths=3"};
        return one(all);
    }

    private String value() {
        return chance.nextInt(3) == 0 ? Integer.toString(chance.nextInt(chance.nextInt(20) == 0 ? 99999 : 9))
                : one(WORDS);
    }

    private String sum(int most) {
        StringBuilder text = new StringBuilder(value());
        for (int i = chance.nextInt(most); i > 0; i--) {
            text.append("+-*/".charAt(chance.nextInt(4))).append(gap()).append(value());
        }
        return text.toString();
    }

    private String fact(int depth) {
        int kind = chance.nextInt(8);
        if (kind == 0 && depth < 11) {
            return "not " + fact(depth + 1);
        }
        if (kind == 1 && depth < 11) {
            return "[" + test(depth + 1) + "]";
        }
        return sum(3) + one(SIGNS) + gap() + sum(3);
    }

    private String test(int depth) {
        StringBuilder text = new StringBuilder(fact(depth));
        for (int i = chance.nextInt(3); i > 0; i--) {
            text.append(chance.nextBoolean() ? " and " : " or ").append(fact(depth));
        }
        return text.toString();
    }

    String law() {
        if (chance.nextInt(3) == 0) {
            return "tell 1=1";
        }
        int clauses = 1 + chance.nextInt(chance.nextInt(10) == 0 ? 14 : 3);
        StringBuilder text = new StringBuilder();
        for (int i = 0; i < clauses; i++) {
            boolean hush = chance.nextInt(3) == 0;
            String clause = (hush ? "hush " : "tell ") + test(0);
            if (text.length() + clause.length() < 399) {
                text.append(i == 0 ? "" : ";").append(clause);
            }
        }
        return hurt(text, 4);
    }

    /** One of so many texts has a bit put in, taken out or put in place of another. */
    private String hurt(StringBuilder text, int oneOf) {
        if (chance.nextInt(oneOf) == 0) {
            for (int i = chance.nextInt(3); i >= 0; i--) {
                int at = chance.nextInt(text.length() + 1);
                int till = Math.min(text.length(), at + chance.nextInt(3));
                text.replace(at, till, chance.nextInt(3) == 0 ? "" : one(BITS));
            }
        }
        return text.length() > 400 ? text.substring(0, 400) : text.toString();
    }
}
