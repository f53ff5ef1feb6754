/** What the tests of the project share: an object, texts put on its tape, answers looked at. */
final class Check {
    final TwoMouths x = new TwoMouths();
    private final String name;
    private static int wrong;
    private static int looked;

    Check(String name) {
        this.name = name;
    }

    String name() {
        return name;
    }

    Check due(String call, int got, int want) {
        looked++;
        if (got != want) {
            wrong++;
            System.out.println(name + ": " + call + " answered " + got + ", due is " + want);
        }
        return this;
    }

    /** Puts a text behind the tape, and nothing else. */
    Check write(String text) {
        int before = x.count(7);
        feed(x, text);
        return due("end behind a text", x.end(before + text.length()), before + text.length());
    }

    /** Feeds a text, the last bytes being 0. */
    static void feed(TwoMouths x, String text) {
        for (int at = 0; at < text.length(); at += 20) {
            x.feed(four(text, at), four(text, at + 4), four(text, at + 8), four(text, at + 12), four(text, at + 16));
        }
    }

    private static int four(String text, int at) {
        int n = 0;
        for (int i = at; i < at + 4; i++) {
            n = n << 8 | (i < text.length() ? text.charAt(i) & 255 : 0);
        }
        return n;
    }

    Check town(String text, int want) {
        x.end(0);
        write(text);
        return due("town '" + text + "'", x.town(), want);
    }

    Check law(String text, int want) {
        x.end(0);
        write(text);
        return due("law '" + text + "'", x.law(), want);
    }

    /** -2 less the number of a fault of a kind at a place. */
    static int fault(int place, int kind) {
        return -2 - (1 + 8 * place + kind);
    }

    static void finish() {
        System.out.println(looked + " answers looked at, " + wrong + " wrong");
        if (wrong > 0 || looked == 0) {
            System.exit(1);
        }
    }
}
