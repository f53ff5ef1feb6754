import java.util.Arrays;

/**
 * Believed on two mouths: a town in which nobody takes a thing for true before he has it by rows of
 * mouths without a common one. See the document for the terms; README.md for the use.
 */
public final class TwoMouths {
    public static final int NONE = -1;

    private static final int NEVER = -2;
    private static final int PEOPLE = 10;
    private static final int SETS = 1 << PEOPLE;
    private static final int EVERYBODY = SETS - 1;
    private static final int HOURS = 100;
    private static final int LAST_HOUR = HOURS - 1;
    private static final int MOST_TALKS = 30;
    private static final int MOST_ENTRIES = 20;
    private static final int MOST_LAWS = 6;
    private static final int MOST_IMAGES = 4;
    private static final int MOST_CHOSEN = 8;
    private static final int MOST_SILENCES = 3;
    private static final int MOST_NEEDED = 3;
    private static final int MOST_TRIES = 20;
    private static final int MOST_BOUND = 8;
    private static final int TAPE_ROOM = 400;
    private static final int FED_BYTES = 20;

    private final Tape tape;
    private final TownReader townReader;
    private final LawReader lawReader;
    private final State state;
    private final State[] images;
    private final boolean[] made;
    private final Law[] laws;
    private int lawCount;
    private final Spread spread;
    private final Talks tryout;
    private final int[] ahead;
    private final Parts parts;
    private final WayFinder wayFinder;

    public TwoMouths() {
        tape = new Tape();
        townReader = new TownReader(tape);
        state = new State();
        images = new State[MOST_IMAGES];
        for (int k = 0; k < MOST_IMAGES; k++) {
            images[k] = new State();
        }
        made = new boolean[MOST_IMAGES];
        laws = new Law[MOST_LAWS];
        for (int k = 0; k < MOST_LAWS; k++) {
            laws[k] = new Law();
        }
        lawReader = new LawReader(tape, laws[0]);
        parts = new Parts();
        spread = new Spread(state, laws[0], parts);
        tryout = new Talks(MOST_TALKS + 1);
        ahead = new int[PEOPLE];
        wayFinder = new WayFinder(spread);
    }

    public int feed(int a, int b, int c, int d, int e) {
        if (tape.length + FED_BYTES > TAPE_ROOM) {
            return NONE;
        }
        tape.push(a);
        tape.push(b);
        tape.push(c);
        tape.push(d);
        tape.push(e);
        return tape.length;
    }

    public int end(int n) {
        if (n < 0 || n > tape.length) {
            return NONE;
        }
        tape.length = n;
        return n;
    }

    public int town() {
        int fault = townReader.read();
        if (fault != 0) {
            return -2 - fault;
        }
        state.town.takeOver(townReader.draft);
        tape.length = 0;
        return state.town.talks.size;
    }

    public int law() {
        if (lawCount >= MOST_LAWS) {
            return NONE;
        }
        int fault = lawReader.read(laws[lawCount]);
        // Unlike a town's, a law's tape is empty behind a fault, too.
        tape.length = 0;
        if (fault != 0) {
            return -2 - fault;
        }
        lawCount++;
        return lawCount - 1;
    }

    public int talk(int who, int to, int hour) {
        Talks all = state.town.talks;
        if (all.size >= MOST_TALKS || !isTelling(who, to, hour)) {
            return NONE;
        }
        all.add(who, to, hour);
        return all.size - 1;
    }

    public int talks(int talk, int what) {
        if (!isTalk(talk)) {
            return NONE;
        }
        Talks all = state.town.talks;
        switch (what) {
            case 0: return all.who[talk];
            case 1: return all.to[talk];
            case 2: return all.hour[talk];
            default: return NONE;
        }
    }

    public int person(int person, int what) {
        if (!isPerson(person)) {
            return NONE;
        }
        if (what >= 100 && what < 100 + HOURS) {
            return state.town.isDeaf(person, what - 100) ? 1 : 0;
        }
        if (what >= 200 && what < 200 + PEOPLE) {
            return bit(state.town.proud[person], what - 200);
        }
        switch (what) {
            case 0: return state.town.need[person];
            case 1: return bit(state.first, person);
            case 2: return bit(state.silent, person);
            default: return NONE;
        }
    }

    public int first(int set) {
        if (!isSet(set)) {
            return NONE;
        }
        int before = state.first;
        state.first = set;
        return before;
    }

    public int silent(int set) {
        if (!isSet(set)) {
            return NONE;
        }
        int before = state.silent;
        state.silent = set;
        return before;
    }

    public int believes(int law, int person) {
        if (!isLaw(law) || !isPerson(person)) {
            return NONE;
        }
        runAsTold(law, LAST_HOUR);
        return spread.believesFrom[person];
    }

    public int has(int law, int person) {
        if (!isLaw(law) || !isPerson(person)) {
            return NONE;
        }
        runAsTold(law, LAST_HOUR);
        return spread.hasFrom[person];
    }

    public int known(int law, int person, int hour, int what) {
        if (!isKnowing(law, person, hour) || what < 0 || what > 5) {
            return NONE;
        }
        runAsTold(law, hour);
        RowSet rows = spread.now[person];
        switch (what) {
            case 0: return rows.size();
            case 1: return rows.shortest();
            case 2: return gateOf(rows);
            default: return partOf(rows, state.town.need[person], what - 3);
        }
    }

    public int row(int law, int person, int hour, int row) {
        if (!isKnowing(law, person, hour) || !isSet(row)) {
            return NONE;
        }
        runAsTold(law, hour);
        return spread.now[person].contains(row) ? 1 : 0;
    }

    public int tells(int law, int talk) {
        if (!isLaw(law) || !isTalk(talk)) {
            return NONE;
        }
        runAsTold(law, LAST_HOUR);
        return bit(spread.told, talk);
    }

    public int spread(int law, int hour, int what) {
        if (!isLaw(law) || !isHour(hour) || what < 0 || what > 1) {
            return NONE;
        }
        runAsTold(law, hour);
        return what == 0 ? spread.believers() : spread.reached();
    }

    public int last(int law) {
        if (!isLaw(law)) {
            return NONE;
        }
        runAsTold(law, LAST_HOUR);
        int hour = 0;
        for (int p = 0; p < PEOPLE; p++) {
            hour = Math.max(hour, spread.believesFrom[p]);
        }
        return hour;
    }

    public int fewest(int law, int choose, int told, int hour) {
        if (!isLaw(law) || !isSet(choose) || !isSet(told) || !isHour(hour)) {
            return NONE;
        }
        int most = Integer.bitCount(choose);
        if (most < 1 || most > MOST_CHOSEN) {
            return NONE;
        }
        spread.begin(state, laws[law]);
        for (int size = 0; size <= most; size++) {
            int set = leastFirst(choose, told, hour, size);
            if (set >= 0) {
                return set;
            }
        }
        return NEVER;
    }

    public int silence(int law, int person) {
        if (!isLaw(law) || !isPerson(person) || bit(state.first, person) != 0) {
            return NONE;
        }
        spread.begin(state, laws[law]);
        for (int size = 0; size <= MOST_SILENCES; size++) {
            int set = leastSilence(person, size);
            if (set >= 0) {
                return set;
            }
        }
        return NEVER;
    }

    public int crier(int law, int hour, int what) {
        if (!isLaw(law) || !isHour(hour) || what < 0 || what > 1) {
            return NONE;
        }
        spread.begin(state, laws[law]);
        int best = 0;
        int most = -1;
        for (int p = 0; p < PEOPLE; p++) {
            spread.first = 1 << p;
            spread.run(hour);
            int believers = spread.believers();
            if (believers > most) {
                most = believers;
                best = p;
            }
        }
        return what == 0 ? best : most;
    }

    public int letter(int law, int person, int hour) {
        if (!isLaw(law) || !isPerson(person) || !isTalkHour(hour)) {
            return NONE;
        }
        runAsTold(law, LAST_HOUR);
        if (spread.believesFrom[person] != NEVER) {
            return 0;
        }
        spread.talks = tryout;
        for (int pair = 0; pair < PEOPLE * PEOPLE; pair++) {
            int who = pair / PEOPLE;
            int to = pair % PEOPLE;
            if (who != to && letterHelps(who, to, hour, person)) {
                return 16 * who + to;
            }
        }
        return NEVER;
    }

    public int entry(int who, int to, int hour) {
        Talks entries = state.entries;
        if (who == NONE) {
            entries.size = 0;
            return 0;
        }
        if (entries.size >= MOST_ENTRIES || !isTelling(who, to, hour)) {
            return -2;
        }
        entries.add(who, to, hour);
        return entries.size;
    }

    public int book(int what) {
        switch (what) {
            case 0: return state.firstWrongEntry();
            case 1: return state.seers(state.possible());
            default: return NONE;
        }
    }

    public int rowAt(int law, int person, int hour, int k) {
        if (!isKnowing(law, person, hour) || k < 0) {
            return NONE;
        }
        runAsTold(law, hour);
        RowSet rows = spread.now[person];
        int left = k;
        for (int r = rows.next(0); r < SETS; r = Math.max(r + 1, rows.next(r + 1))) {
            if (left == 0) {
                return r;
            }
            left--;
        }
        return NEVER;
    }

    public int mouths(int law, int person, int hour, int what) {
        if (!isKnowing(law, person, hour) || what < 0 || what > 1) {
            return NONE;
        }
        runAsTold(law, hour);
        RowSet rows = spread.now[person];
        return what == 0 ? rows.union() : rows.common();
    }

    public int turn(int law, int k) {
        if (!isLaw(law) || k < 0) {
            return NONE;
        }
        runAsTold(law, LAST_HOUR);
        int left = k;
        for (int place = 0; place < HOURS * PEOPLE; place++) {
            int p = place % PEOPLE;
            if (spread.believesFrom[p] == place / PEOPLE) {
                if (left == 0) {
                    return p;
                }
                left--;
            }
        }
        return NEVER;
    }

    public int byBook(int law, int person) {
        if (!isLaw(law) || !isPerson(person)) {
            return NONE;
        }
        int possible = state.possible();
        tryout.takeSome(state.entries, possible);
        spread.begin(state, laws[law]);
        spread.talks = tryout;
        spread.first = state.seers(possible);
        spread.run(LAST_HOUR);
        return spread.believesFrom[person];
    }

    public int lies(int law) {
        if (!isLaw(law)) {
            return NONE;
        }
        runAsTold(law, LAST_HOUR);
        int possible = state.possible();
        int lies = 0;
        for (int i = 0; i < state.entries.size; i++) {
            int from = spread.hasFrom[state.entries.who[i]];
            // A FIRST one has it from HOUR 0 on, ahead of every ENTRY.
            boolean hadIt = from != NEVER && from < state.entries.hour[i];
            if (bit(possible, i) != 0 && !hadIt) {
                lies |= 1 << i;
            }
        }
        return lies;
    }

    public int doubts(int law, int hour) {
        if (!isLaw(law) || !isHour(hour)) {
            return NONE;
        }
        runAsTold(law, hour);
        int set = 0;
        for (int p = 0; p < PEOPLE; p++) {
            boolean enough = spread.now[p].size() >= state.town.need[p];
            if (enough && spread.believesFrom[p] == NEVER) {
                set |= 1 << p;
            }
        }
        return set;
    }

    public int apart(int law, int person, int hour) {
        if (!isKnowing(law, person, hour)) {
            return NONE;
        }
        runAsTold(law, hour);
        parts.look(spread.now[person]);
        return parts.mostFrom(0, 0, 0);
    }

    public int weight(int law, int person, int hour) {
        if (!isKnowing(law, person, hour)) {
            return NONE;
        }
        runAsTold(law, hour);
        int before = spread.believers();
        spread.silent = state.silent | 1 << person;
        spread.run(hour);
        return before - spread.believers();
    }

    public int reach(int person, int hour) {
        if (!isPerson(person) || !isHour(hour)) {
            return NONE;
        }
        // Someone who can tell at the HOUR itself has it from the HOUR ahead of it.
        Arrays.fill(ahead, HOURS);
        ahead[person] = hour - 1;
        spread.begin(state, laws[0]);
        spread.sortByHour();
        for (int i = 0; i < state.town.talks.size; i++) {
            lead(spread.order[i]);
        }
        int set = 0;
        for (int p = 0; p < PEOPLE; p++) {
            if (ahead[p] < HOURS) {
                set |= 1 << p;
            }
        }
        return set;
    }

    public int way(int law, int person, int row, int k) {
        if (!isLaw(law) || !isPerson(person) || !isSet(row) || k < 0) {
            return NONE;
        }
        spread.begin(state, laws[law]);
        spread.watch(person, row);
        spread.run(LAST_HOUR);
        if (spread.watchedFrom == NEVER || k >= Integer.bitCount(row)) {
            return NEVER;
        }
        return wayFinder.stepOf(person, row, k);
    }

    public int moved(int law, int talk, int person, int what) {
        if (!isLaw(law) || !isTalk(talk) || !isPerson(person) || what < 0 || what > 1) {
            return NONE;
        }
        tryout.takeOver(state.town.talks);
        spread.begin(state, laws[law]);
        spread.talks = tryout;
        int best = NEVER;
        int bestHour = NEVER;
        for (int hour = 1; hour <= LAST_HOUR; hour++) {
            tryout.hour[talk] = hour;
            spread.run(LAST_HOUR);
            int from = spread.believesFrom[person];
            if (from != NEVER && (best == NEVER || from < best)) {
                best = from;
                bestHour = hour;
            }
        }
        return what == 0 ? bestHour : best;
    }

    public int two(int law, int other, int hour, int what) {
        if (!isLaw(law) || !isSet(other) || !isHour(hour) || what < 0 || what > 2) {
            return NONE;
        }
        runAsTold(law, hour);
        System.arraycopy(spread.believesFrom, 0, ahead, 0, PEOPLE);
        spread.first = other;
        spread.run(hour);
        int set = 0;
        for (int p = 0; p < PEOPLE; p++) {
            if (sayingOf(ahead[p], spread.believesFrom[p]) == what) {
                set |= 1 << p;
            }
        }
        return set;
    }

    public int seed(int x) {
        if (x < 0) {
            return NONE;
        }
        int before = state.x;
        state.x = x;
        return before;
    }

    public int tried(int law, int m, int bound, int person, int hour, int what) {
        if (!isKnowing(law, person, hour) || what < 0 || what > 1) {
            return NONE;
        }
        if (m < 1 || m > MOST_TRIES || bound < 0 || bound > MOST_BOUND) {
            return NONE;
        }
        int before = state.x;
        int sum = 0;
        spread.begin(state, laws[law]);
        for (int i = 0; i < m; i++) {
            spread.left = drawLeft(bound);
            spread.run(hour);
            int one = spread.believesFrom[person] == NEVER ? 0 : 1;
            sum += what == 0 ? one : spread.believers();
        }
        state.x = before;
        return sum;
    }

    public int count(int what) {
        switch (what) {
            case 0: return state.town.talks.size;
            case 1: return lawCount;
            case 2: return state.town.deafs;
            case 3: return state.entries.size;
            case 4: return state.first;
            case 5: return state.silent;
            case 6: return state.x;
            case 7: return tape.length;
            case 8: return state.town.prouds;
            default: return NONE;
        }
    }

    public int image(int k) {
        if (k < 0 || k >= MOST_IMAGES) {
            return NONE;
        }
        images[k].takeOver(state);
        made[k] = true;
        return state.town.talks.size;
    }

    public int back(int k) {
        if (k < 0 || k >= MOST_IMAGES || !made[k]) {
            return NONE;
        }
        state.takeOver(images[k]);
        return state.town.talks.size;
    }

    private static boolean isPerson(int person) {
        return person >= 0 && person < PEOPLE;
    }

    private static boolean isSet(int set) {
        return set >= 0 && set < SETS;
    }

    private static boolean isHour(int hour) {
        return hour >= 0 && hour < HOURS;
    }

    private static boolean isTalkHour(int hour) {
        return hour >= 1 && hour < HOURS;
    }

    private static boolean isTelling(int who, int to, int hour) {
        return isPerson(who) && isPerson(to) && who != to && isTalkHour(hour);
    }

    private boolean isLaw(int law) {
        return law >= 0 && law < lawCount;
    }

    private boolean isTalk(int talk) {
        return talk >= 0 && talk < state.town.talks.size;
    }

    private boolean isKnowing(int law, int person, int hour) {
        return isLaw(law) && isPerson(person) && isHour(hour);
    }

    private static int bit(int set, int place) {
        return set >> place & 1;
    }

    private void runAsTold(int law, int till) {
        spread.begin(state, laws[law]);
        spread.run(till);
    }

    private static int gateOf(RowSet rows) {
        int common = rows.common();
        return common == 0 ? NEVER : Integer.numberOfTrailingZeros(common);
    }

    private int partOf(RowSet rows, int need, int k) {
        parts.look(rows);
        if (k < 0 || k >= need || !parts.find(need)) {
            return NEVER;
        }
        return parts.chosen[k];
    }

    private int leastFirst(int choose, int told, int hour, int size) {
        int set = 0;
        for (int i = 0; i < 1 << MOST_CHOSEN; i++) {
            if (Integer.bitCount(set) == size) {
                spread.first = set;
                spread.run(hour);
                if ((told & ~spread.believing()) == 0) {
                    return set;
                }
            }
            // The next set within choose, by number; behind the last one comes the empty one.
            set = set - choose & choose;
            if (set == 0) {
                return NEVER;
            }
        }
        return NEVER;
    }

    private int leastSilence(int person, int size) {
        for (int set = 0; set < SETS; set++) {
            if (Integer.bitCount(set) == size && (set & state.first) == 0) {
                spread.silent = state.silent | set;
                spread.run(LAST_HOUR);
                if (spread.believesFrom[person] == NEVER) {
                    return set;
                }
            }
        }
        return NEVER;
    }

    private boolean letterHelps(int who, int to, int hour, int person) {
        tryout.takeOver(state.town.talks);
        tryout.add(who, to, hour);
        spread.run(LAST_HOUR);
        return spread.believesFrom[person] != NEVER;
    }

    private void lead(int talk) {
        Talks all = state.town.talks;
        int to = all.to[talk];
        int who = all.who[talk];
        int hour = all.hour[talk];
        if (ahead[who] < hour && hour < ahead[to] && state.town.hears(to, who, hour)) {
            ahead[to] = hour;
        }
    }

    /** 0: the one saying, 1: the other, 2: torn, NONE: neither. */
    private static int sayingOf(int one, int other) {
        if (one == other) {
            return one == NEVER ? NONE : 2;
        }
        if (other == NEVER) {
            return 0;
        }
        return one != NEVER && one < other ? 0 : 1;
    }

    /** The TALKS that one try leaves out, as bits; each takes a DRAW, whatever the bound. */
    private int drawLeft(int bound) {
        int left = 0;
        for (int t = 0; t < state.town.talks.size; t++) {
            if (state.draw() % 8 < bound) {
                left |= 1 << t;
            }
        }
        return left;
    }

    /** The bytes fed, and what both readers of them need to go along the text. */
    private static final class Tape {
        private static final int END = -1;
        private static final int MOST_DIGITS = 5;
        private static final int CANNOT_STAND = 0;
        private static final int WRONG_NUMBER = 1;
        private static final int TOO_DEEP = 2;
        private static final int ONE_PIECE_TOO_MANY = 3;
        private static final int ONE_CLAUSE_TOO_MANY = 4;

        private final int[] bytes = new int[TAPE_ROOM];
        private int length;
        private int place;
        private int start;
        private int number;
        private int fault;

        private void push(int four) {
            for (int shift = 24; shift >= 0; shift -= 8) {
                if (length < TAPE_ROOM) {
                    bytes[length] = four >>> shift & 255;
                    length++;
                }
            }
        }

        private void open() {
            place = 0;
            start = 0;
            fault = 0;
        }

        private boolean fail(int at, int kind) {
            if (fault == 0) {
                fault = 1 + 8 * at + kind;
            }
            return false;
        }

        /** Goes over blanks to the byte that comes next, or to the end. */
        private int peek() {
            while (place < length && bytes[place] == ' ') {
                place++;
            }
            return place < length ? bytes[place] : END;
        }

        private boolean takes(int sign) {
            if (peek() != sign) {
                return false;
            }
            place++;
            return true;
        }

        private static boolean isLetter(int sign) {
            return sign >= 'a' && sign <= 'z';
        }

        private static boolean isDigit(int sign) {
            return sign >= '0' && sign <= '9';
        }

        private boolean readWord() {
            peek();
            start = place;
            while (place < length && isLetter(bytes[place])) {
                place++;
            }
            return place > start;
        }

        private boolean spells(String word) {
            if (word.length() != place - start) {
                return false;
            }
            for (int i = 0; i < word.length(); i++) {
                if (word.charAt(i) != bytes[start + i]) {
                    return false;
                }
            }
            return true;
        }

        private boolean takesWord(String word) {
            if (readWord() && spells(word)) {
                return true;
            }
            place = start;
            return false;
        }

        private boolean readNumber() {
            peek();
            start = place;
            number = 0;
            while (place < length && isDigit(bytes[place])) {
                if (place - start < MOST_DIGITS) {
                    number = number * 10 + bytes[place] - '0';
                }
                place++;
            }
            if (place == start) {
                return fail(start, CANNOT_STAND);
            }
            return place - start <= MOST_DIGITS || fail(start, WRONG_NUMBER);
        }

        private boolean readWithin(int least, int most) {
            if (!readNumber()) {
                return false;
            }
            return number >= least && number <= most || fail(start, WRONG_NUMBER);
        }

        private boolean readUnlike(int person) {
            return readWithin(0, PEOPLE - 1) && (number != person || fail(start, WRONG_NUMBER));
        }

        private boolean isAtEnd() {
            return peek() == END || fail(place, CANNOT_STAND);
        }
    }

    /** Reads a TOWN into a draft, so that a text with a FAULT changes nothing. */
    private static final class TownReader {
        private static final int MOST_CLAUSES = 32;
        private static final int MOST_DEAF = 12;
        private static final int MOST_PROUD = 12;

        private final Tape tape;
        private final Town draft = new Town();

        private TownReader(Tape tape) {
            this.tape = tape;
        }

        private int read() {
            tape.open();
            draft.clear();
            for (int clause = 0; clause <= MOST_CLAUSES; clause++) {
                if (!readClause(clause)) {
                    return tape.fault;
                }
                if (!tape.takes(';')) {
                    break;
                }
            }
            tape.isAtEnd();
            return tape.fault;
        }

        private boolean readClause(int clause) {
            tape.readWord();
            boolean need = tape.spells("need");
            boolean deaf = tape.spells("deaf");
            boolean proud = tape.spells("proud");
            boolean talk = tape.spells("talk");
            if (!need && !deaf && !proud && !talk) {
                return tape.fail(tape.start, Tape.CANNOT_STAND);
            }
            if (clause >= MOST_CLAUSES
                    || deaf && draft.deafs >= MOST_DEAF
                    || proud && draft.prouds >= MOST_PROUD
                    || talk && draft.talks.size >= MOST_TALKS) {
                return tape.fail(tape.start, Tape.ONE_CLAUSE_TOO_MANY);
            }
            if (need) {
                return readNeed();
            }
            if (deaf) {
                return readDeaf();
            }
            return proud ? readProud() : readTalk();
        }

        private boolean readNeed() {
            if (!tape.readWithin(0, PEOPLE - 1)) {
                return false;
            }
            int person = tape.number;
            if (!tape.readWithin(1, MOST_NEEDED)) {
                return false;
            }
            draft.need[person] = tape.number;
            return true;
        }

        private boolean readDeaf() {
            if (!tape.readWithin(0, PEOPLE - 1)) {
                return false;
            }
            int person = tape.number;
            if (!tape.readWithin(0, LAST_HOUR)) {
                return false;
            }
            int from = tape.number;
            if (!tape.readWithin(from, LAST_HOUR)) {
                return false;
            }
            draft.addDeaf(person, from, tape.number);
            return true;
        }

        private boolean readProud() {
            if (!tape.readWithin(0, PEOPLE - 1)) {
                return false;
            }
            int person = tape.number;
            if (!tape.readUnlike(person)) {
                return false;
            }
            draft.proud[person] |= 1 << tape.number;
            draft.prouds++;
            return true;
        }

        private boolean readTalk() {
            if (!tape.readWithin(0, PEOPLE - 1)) {
                return false;
            }
            int who = tape.number;
            if (!tape.readUnlike(who)) {
                return false;
            }
            int to = tape.number;
            if (!tape.readWithin(1, LAST_HOUR)) {
                return false;
            }
            draft.talks.add(who, to, tape.number);
            return true;
        }
    }

    /** Reads a LAW as codes in the order in which a stack takes them. */
    private static final class LawReader {
        private static final int MOST_PIECES = 60;
        private static final int MOST_DEPTH = 10;

        private final Tape tape;
        private Law draft;
        private int pieces;

        private LawReader(Tape tape, Law someLaw) {
            this.tape = tape;
            draft = someLaw;
        }

        private int read(Law law) {
            draft = law;
            draft.clear();
            pieces = 0;
            tape.open();
            for (int clause = 0; clause <= Law.MOST_CLAUSES; clause++) {
                tape.readWord();
                boolean hush = tape.spells("hush");
                if (!hush && !tape.spells("tell")) {
                    tape.fail(tape.start, Tape.CANNOT_STAND);
                } else if (clause >= Law.MOST_CLAUSES) {
                    tape.fail(tape.start, Tape.ONE_CLAUSE_TOO_MANY);
                }
                if (tape.fault != 0 || !readTest(0)) {
                    return tape.fault;
                }
                draft.closeClause(hush);
                if (!tape.takes(';')) {
                    break;
                }
            }
            tape.isAtEnd();
            return tape.fault;
        }

        private boolean readTest(int depth) {
            if (!readFact(depth)) {
                return false;
            }
            boolean pending = false;
            for (int more = 0; more < TAPE_ROOM; more++) {
                boolean and = tape.takesWord("and");
                if (pending && !and) {
                    // A PART ends here, so the "or" ahead of it has both its sides.
                    draft.addCode(Law.OR, 0);
                    pending = false;
                }
                boolean or = !and && tape.takesWord("or");
                if (!and && !or) {
                    break;
                }
                if (!readFact(depth)) {
                    return false;
                }
                if (and) {
                    draft.addCode(Law.AND, 0);
                } else {
                    pending = true;
                }
            }
            return true;
        }

        private boolean readFact(int depth) {
            if (tape.takes('[')) {
                if (depth >= MOST_DEPTH) {
                    return tape.fail(tape.place - 1, Tape.TOO_DEEP);
                }
                return readTest(depth + 1)
                        && (tape.takes(']') || tape.fail(tape.place, Tape.CANNOT_STAND));
            }
            if (tape.takesWord("not")) {
                if (depth >= MOST_DEPTH) {
                    return tape.fail(tape.start, Tape.TOO_DEEP);
                }
                if (!readFact(depth + 1)) {
                    return false;
                }
                draft.addCode(Law.NOT, 0);
                return true;
            }
            if (!readSum()) {
                return false;
            }
            int sign = readSign();
            if (sign == NONE || !readSum()) {
                return false;
            }
            draft.addCode(sign, 0);
            return true;
        }

        /** The kind of a SIGN; NONE with a FAULT. */
        private int readSign() {
            int byteThere = tape.peek();
            int at = tape.place;
            if (byteThere != '<' && byteThere != '=' && byteThere != '>') {
                tape.fail(at, Tape.CANNOT_STAND);
                return NONE;
            }
            if (!countPiece(at)) {
                return NONE;
            }
            tape.place++;
            if (byteThere == '=') {
                return Law.EQUAL;
            }
            boolean orEqual = isEqualNext();
            if (byteThere == '<') {
                return orEqual ? Law.AT_MOST : Law.LESS;
            }
            return orEqual ? Law.AT_LEAST : Law.MORE;
        }

        /** No blank stands within a SIGN, so the very next byte decides. */
        private boolean isEqualNext() {
            return tape.place < tape.length && tape.bytes[tape.place] == '=' && tape.takes('=');
        }

        private boolean readSum() {
            if (!readValue()) {
                return false;
            }
            int pending = NONE;
            for (int more = 0; more < TAPE_ROOM; more++) {
                int sign = tape.peek();
                boolean binds = sign == '*' || sign == '/';
                if (pending != NONE && !binds) {
                    // A TERM ends here, so the + or - ahead of it has both its sides.
                    draft.addCode(pending, 0);
                    pending = NONE;
                }
                if (!binds && sign != '+' && sign != '-') {
                    break;
                }
                tape.place++;
                if (!readValue()) {
                    return false;
                }
                if (binds) {
                    draft.addCode(sign == '*' ? Law.TIMES : Law.BY, 0);
                } else {
                    pending = sign == '+' ? Law.PLUS : Law.MINUS;
                }
            }
            return true;
        }

        private boolean readValue() {
            if (Tape.isDigit(tape.peek())) {
                if (!tape.readNumber() || !countPiece(tape.start)) {
                    return false;
                }
                draft.addCode(Law.NUMBER, tape.number);
                return true;
            }
            tape.readWord();
            int word = wordRead();
            if (word == NONE) {
                return tape.fail(tape.start, Tape.CANNOT_STAND);
            }
            if (!countPiece(tape.start)) {
                return false;
            }
            draft.addCode(Law.WORD, word);
            return true;
        }

        private int wordRead() {
            if (tape.spells("hour")) {
                return Law.HOUR;
            }
            if (tape.spells("from")) {
                return Law.FROM;
            }
            if (tape.spells("to")) {
                return Law.TO;
            }
            if (tape.spells("believes")) {
                return Law.BELIEVES;
            }
            if (tape.spells("knows")) {
                return Law.KNOWS;
            }
            if (tape.spells("mouths")) {
                return Law.MOUTHS;
            }
            if (tape.spells("shortest")) {
                return Law.SHORTEST;
            }
            if (tape.spells("rows")) {
                return Law.ROWS;
            }
            return tape.spells("sees") ? Law.SEES : NONE;
        }

        private boolean countPiece(int at) {
            pieces++;
            return pieces <= MOST_PIECES || tape.fail(at, Tape.ONE_PIECE_TOO_MANY);
        }
    }

    /** A LAW as codes for a stack: a code is 32 * its value + its kind. */
    private static final class Law {
        private static final int MOST_CLAUSES = 12;
        // Ten levels with an "or" and an "and" pending in each, and a comparison: far below this.
        private static final int STACK_ROOM = 64;

        private static final int NUMBER = 0;
        private static final int WORD = 1;
        private static final int NOT = 2;
        private static final int OR = 3;
        private static final int AND = 4;
        private static final int LESS = 5;
        private static final int AT_MOST = 6;
        private static final int EQUAL = 7;
        private static final int AT_LEAST = 8;
        private static final int MORE = 9;
        private static final int PLUS = 10;
        private static final int MINUS = 11;
        private static final int TIMES = 12;
        private static final int BY = 13;

        private static final int HOUR = 0;
        private static final int FROM = 1;
        private static final int TO = 2;
        private static final int BELIEVES = 3;
        private static final int KNOWS = 4;
        private static final int MOUTHS = 5;
        private static final int SHORTEST = 6;
        private static final int ROWS = 7;
        private static final int SEES = 8;
        private static final int WORDS = 9;

        // Each code comes of a byte of its own, so a whole TAPE has room.
        private final int[] codes = new int[TAPE_ROOM];
        private int length;
        private final int[] ends = new int[MOST_CLAUSES];
        private final boolean[] hushes = new boolean[MOST_CLAUSES];
        private int clauses;
        private int asked;
        private final long[] stack = new long[STACK_ROOM];

        private void clear() {
            length = 0;
            clauses = 0;
            asked = 0;
        }

        private void addCode(int kind, int value) {
            if (length < codes.length) {
                codes[length] = 32 * value + kind;
                length++;
            }
            if (kind == WORD) {
                asked |= 1 << value;
            }
        }

        private void closeClause(boolean hush) {
            if (clauses < MOST_CLAUSES) {
                ends[clauses] = length;
                hushes[clauses] = hush;
                clauses++;
            }
        }

        private boolean asks(int word) {
            return (asked >> word & 1) != 0;
        }

        /** Whether one who could tell does, the WORDS being as given. */
        private boolean lets(long[] words) {
            boolean told = true;
            boolean some = false;
            int from = 0;
            for (int c = 0; c < clauses; c++) {
                boolean holds = judge(from, ends[c], words);
                from = ends[c];
                if (hushes[c]) {
                    if (holds) {
                        return false;
                    }
                } else {
                    told = some || holds;
                    some = told;
                }
            }
            return told;
        }

        private boolean judge(int from, int till, long[] words) {
            int top = 0;
            for (int i = from; i < till; i++) {
                int value = codes[i] >> 5;
                int kind = codes[i] & 31;
                if (kind == NUMBER || kind == WORD) {
                    if (top < STACK_ROOM) {
                        stack[top] = kind == NUMBER ? value : words[value];
                        top++;
                    }
                } else if (kind == NOT) {
                    if (top > 0) {
                        stack[top - 1] = 1 - stack[top - 1];
                    }
                } else if (top > 1) {
                    top--;
                    stack[top - 1] = join(kind, stack[top - 1], stack[top]);
                }
            }
            return top > 0 && stack[top - 1] != 0;
        }

        private static long join(int kind, long left, long right) {
            switch (kind) {
                case OR: return left | right;
                case AND: return left & right;
                case LESS: return left < right ? 1 : 0;
                case AT_MOST: return left <= right ? 1 : 0;
                case EQUAL: return left == right ? 1 : 0;
                case AT_LEAST: return left >= right ? 1 : 0;
                case MORE: return left > right ? 1 : 0;
                case PLUS: return left + right;
                case MINUS: return left - right;
                case TIMES: return left * right;
                default: return right == 0 ? 0 : left / right;
            }
        }
    }

    /** TALKS, or the ENTRIES of the BOOK, in the order told. */
    private static final class Talks {
        private final int[] who;
        private final int[] to;
        private final int[] hour;
        private int size;

        private Talks(int room) {
            int some = Math.max(room, 0);
            who = new int[some];
            to = new int[some];
            hour = new int[some];
        }

        private void add(int teller, int hearer, int when) {
            if (size < who.length) {
                who[size] = teller;
                to[size] = hearer;
                hour[size] = when;
                size++;
            }
        }

        private void takeOver(Talks other) {
            size = Math.min(other.size, who.length);
            System.arraycopy(other.who, 0, who, 0, size);
            System.arraycopy(other.to, 0, to, 0, size);
            System.arraycopy(other.hour, 0, hour, 0, size);
        }

        private void takeSome(Talks other, int chosen) {
            size = 0;
            for (int i = 0; i < other.size; i++) {
                if (bit(chosen, i) != 0) {
                    add(other.who[i], other.to[i], other.hour[i]);
                }
            }
        }

        private boolean isSame(int i, int teller, int hearer, int when) {
            return who[i] == teller && to[i] == hearer && hour[i] == when;
        }

        /** Whether one of those ahead of a place is this one. */
        private boolean containsAhead(int place, int teller, int hearer, int when) {
            for (int i = 0; i < place && i < size; i++) {
                if (isSame(i, teller, hearer, when)) {
                    return true;
                }
            }
            return false;
        }
    }

    /** What the text of a TOWN tells, and the TALKS told behind it. */
    private static final class Town {
        private static final int USUAL_NEED = 2;

        private final int[] need = new int[PEOPLE];
        // HOURS as bits, two numbers for each person.
        private final long[] deaf = new long[2 * PEOPLE];
        private final int[] proud = new int[PEOPLE];
        private final Talks talks = new Talks(MOST_TALKS);
        private int deafs;
        private int prouds;

        private Town() {
            Arrays.fill(need, USUAL_NEED);
        }

        private void clear() {
            Arrays.fill(need, USUAL_NEED);
            Arrays.fill(deaf, 0L);
            Arrays.fill(proud, 0);
            talks.size = 0;
            deafs = 0;
            prouds = 0;
        }

        private void takeOver(Town other) {
            System.arraycopy(other.need, 0, need, 0, need.length);
            System.arraycopy(other.deaf, 0, deaf, 0, deaf.length);
            System.arraycopy(other.proud, 0, proud, 0, proud.length);
            talks.takeOver(other.talks);
            deafs = other.deafs;
            prouds = other.prouds;
        }

        private void addDeaf(int person, int from, int till) {
            for (int hour = from; hour <= till; hour++) {
                deaf[2 * person + (hour >> 6)] |= 1L << (hour & 63);
            }
            deafs++;
        }

        private boolean isDeaf(int person, int hour) {
            return (deaf[2 * person + (hour >> 6)] >>> (hour & 63) & 1L) != 0;
        }

        private boolean hears(int hearer, int teller, int hour) {
            return !isDeaf(hearer, hour) && bit(proud[hearer], teller) == 0;
        }
    }

    /** All that an IMAGE keeps. */
    private static final class State {
        private final Town town = new Town();
        private final Talks entries = new Talks(MOST_ENTRIES);
        private int first;
        private int silent;
        private int x;

        private void takeOver(State other) {
            town.takeOver(other.town);
            entries.takeOver(other.entries);
            first = other.first;
            silent = other.silent;
            x = other.x;
        }

        private int draw() {
            x = (int) (x * 1103515245L + 12345L & 2147483647L);
            return x / 65536;
        }

        private boolean canBe(int i) {
            int who = entries.who[i];
            int to = entries.to[i];
            int hour = entries.hour[i];
            return town.talks.containsAhead(MOST_TALKS, who, to, hour)
                    && town.hears(to, who, hour)
                    && bit(silent, who) == 0
                    && !entries.containsAhead(i, who, to, hour);
        }

        /** The ENTRIES that can be, as bits. */
        private int possible() {
            int set = 0;
            for (int i = 0; i < entries.size; i++) {
                if (canBe(i)) {
                    set |= 1 << i;
                }
            }
            return set;
        }

        private int firstWrongEntry() {
            for (int i = 0; i < entries.size; i++) {
                if (!canBe(i)) {
                    return i;
                }
            }
            return NEVER;
        }

        private int seers(int possible) {
            int set = 0;
            for (int p = 0; p < PEOPLE; p++) {
                int telling = HOURS;
                int hearing = HOURS;
                for (int i = 0; i < entries.size; i++) {
                    if (bit(possible, i) != 0 && entries.who[i] == p) {
                        telling = Math.min(telling, entries.hour[i]);
                    }
                    if (bit(possible, i) != 0 && entries.to[i] == p) {
                        hearing = Math.min(hearing, entries.hour[i]);
                    }
                }
                if (telling < HOURS && hearing >= telling) {
                    set |= 1 << p;
                }
            }
            return set;
        }
    }

    /** ROWS of one, by their numbers. */
    private static final class RowSet {
        private static final int WORDS = SETS / 64;

        private final long[] words = new long[WORDS];

        private void clear() {
            Arrays.fill(words, 0L);
        }

        private void takeOver(RowSet other) {
            System.arraycopy(other.words, 0, words, 0, WORDS);
        }

        private boolean contains(int row) {
            return isSet(row) && (words[row >> 6] >>> (row & 63) & 1L) != 0;
        }

        private void add(int row) {
            if (isSet(row)) {
                words[row >> 6] |= 1L << (row & 63);
            }
        }

        /** The least ROW not below a number; SETS without such a ROW. */
        private int next(int row) {
            if (row < 0 || row >= SETS) {
                return SETS;
            }
            long rest = words[row >> 6] & -1L << (row & 63);
            for (int w = row >> 6; w < WORDS; w++) {
                if (w > row >> 6) {
                    rest = words[w];
                }
                if (rest != 0) {
                    return 64 * w + Long.numberOfTrailingZeros(rest);
                }
            }
            return SETS;
        }

        private boolean isEmpty() {
            return next(0) >= SETS;
        }

        private int size() {
            int size = 0;
            for (int w = 0; w < WORDS; w++) {
                size += Long.bitCount(words[w]);
            }
            return size;
        }

        private int shortest() {
            int least = PEOPLE;
            for (int r = next(0); r < SETS; r = Math.max(r + 1, next(r + 1))) {
                least = Math.min(least, Integer.bitCount(r));
            }
            // No ROW of his has himself, so it has fewer than all.
            return least < PEOPLE ? least : 0;
        }

        private int union() {
            int all = 0;
            for (int r = next(0); r < SETS; r = Math.max(r + 1, next(r + 1))) {
                all |= r;
            }
            return all;
        }

        private int common() {
            int all = EVERYBODY;
            for (int r = next(0); r < SETS; r = Math.max(r + 1, next(r + 1))) {
                all &= r;
            }
            return all == EVERYBODY ? 0 : all;
        }

        private void addPassed(RowSet rows, int teller, int hearer) {
            for (int r = rows.next(0); r < SETS; r = Math.max(r + 1, rows.next(r + 1))) {
                if (bit(r, hearer) == 0) {
                    add(r | 1 << teller);
                }
            }
        }
    }

    /**
     * Which ROWS of one have no mouth in common. A ROW within which another one lies is passed over:
     * the other one parts from all that it parts from, and is the lesser number.
     */
    private static final class Parts {
        private final int[] least = new int[SETS];
        private int size;
        private final int[] chosen = new int[MOST_NEEDED];

        private void look(RowSet rows) {
            size = 0;
            // What lies within a ROW is a lesser number, so it has been looked at ahead of it.
            for (int r = rows.next(0); r < SETS; r = Math.max(r + 1, rows.next(r + 1))) {
                if (size < SETS && !isAnyWithin(r)) {
                    least[size] = r;
                    size++;
                }
            }
        }

        private boolean isAnyWithin(int row) {
            for (int i = 0; i < size; i++) {
                if ((least[i] & ~row) == 0) {
                    return true;
                }
            }
            return false;
        }

        /** Whether so many of the ROWS looked at part; the first of these are chosen. */
        private boolean find(int need) {
            return need >= 1 && need <= MOST_NEEDED && choose(0, 0, 0, need);
        }

        private boolean choose(int from, int used, int depth, int need) {
            if (depth >= need || depth >= MOST_NEEDED) {
                return true;
            }
            for (int i = from; i < size; i++) {
                if ((least[i] & used) == 0) {
                    chosen[depth] = least[i];
                    if (choose(i + 1, used | least[i], depth + 1, need)) {
                        return true;
                    }
                }
            }
            return false;
        }

        /** The most that part of the ROWS looked at, from a place on and beside the mouths used. */
        private int mostFrom(int from, int used, int depth) {
            int most = 0;
            // Each level takes a mouth at least, so there are no more levels than PEOPLE.
            for (int i = from; i < size && depth < PEOPLE; i++) {
                if ((least[i] & used) == 0) {
                    most = Math.max(most, 1 + mostFrom(i + 1, used | least[i], depth + 1));
                }
            }
            return most;
        }
    }

    /** How the thing goes through a town, HOUR by HOUR. */
    private static final class Spread {
        private Town town;
        private Talks talks;
        private Law law;
        private int first;
        private int silent;
        private int left;
        private final Parts parts;
        private final RowSet[] now = new RowSet[PEOPLE];
        private final RowSet[] behind = new RowSet[PEOPLE];
        private final int[] believesFrom = new int[PEOPLE];
        private final int[] hasFrom = new int[PEOPLE];
        private final int[] heard = new int[PEOPLE];
        private final int[] heardBehind = new int[PEOPLE];
        private final int[] order = new int[MOST_TALKS + 1];
        private final long[] words = new long[Law.WORDS];
        private int told;
        private int changed;
        private int watcher;
        private int watched;
        private int watchedFrom;

        private Spread(State state, Law someLaw, Parts someParts) {
            town = state.town;
            talks = state.town.talks;
            law = someLaw;
            parts = someParts;
            for (int p = 0; p < PEOPLE; p++) {
                now[p] = new RowSet();
                behind[p] = new RowSet();
            }
        }

        /** All as told; what a call asks otherwise it sets behind this. */
        private void begin(State state, Law asked) {
            town = state.town;
            talks = state.town.talks;
            law = asked;
            first = state.first;
            silent = state.silent;
            left = 0;
            watch(0, 0);
        }

        /** Nobody has the ROW of nobody, so it is watched where none is. */
        private void watch(int person, int row) {
            watcher = person;
            watched = row;
        }

        private void run(int till) {
            clear();
            sortByHour();
            int count = Math.min(talks.size, order.length);
            for (int i = 0; i < count; i++) {
                int hour = talks.hour[order[i]];
                if (hour > till) {
                    break;
                }
                if (bit(left, order[i]) == 0 && isTold(order[i])) {
                    passOn(order[i]);
                }
                if (i + 1 == count || talks.hour[order[i + 1]] > hour) {
                    close(hour);
                }
            }
        }

        private void clear() {
            told = 0;
            changed = 0;
            watchedFrom = NEVER;
            Arrays.fill(heard, 0);
            Arrays.fill(heardBehind, 0);
            for (int p = 0; p < PEOPLE; p++) {
                // Only who had a ROW in the run ahead of this one has something to clear.
                if (hasFrom[p] > 0) {
                    now[p].clear();
                    behind[p].clear();
                }
                believesFrom[p] = isFirst(p) ? 0 : NEVER;
                hasFrom[p] = believesFrom[p];
            }
        }

        /** By HOURS, of one HOUR by their numbers. */
        private void sortByHour() {
            int count = Math.min(talks.size, order.length);
            for (int t = 0; t < count; t++) {
                int place = t;
                while (place > 0 && talks.hour[order[place - 1]] > talks.hour[t]) {
                    order[place] = order[place - 1];
                    place--;
                }
                order[place] = t;
            }
        }

        private boolean isFirst(int person) {
            return bit(first, person) != 0;
        }

        private void passOn(int talk) {
            int who = talks.who[talk];
            int to = talks.to[talk];
            told |= 1 << talk;
            if (!town.hears(to, who, talks.hour[talk])) {
                return;
            }
            changed |= 1 << to;
            heardBehind[to] |= 1 << who;
            if (isFirst(to)) {
                return;
            }
            if (isFirst(who)) {
                behind[to].add(1 << who);
            } else {
                behind[to].addPassed(now[who], who, to);
            }
        }

        private boolean isTold(int talk) {
            int who = talks.who[talk];
            int to = talks.to[talk];
            // hasFrom changes only behind an HOUR, so it tells of the HOURS ahead.
            if (bit(silent, who) != 0 || hasFrom[who] == NEVER) {
                return false;
            }
            words[Law.HOUR] = talks.hour[talk];
            words[Law.FROM] = who;
            words[Law.TO] = to;
            words[Law.BELIEVES] = believesFrom[who] == NEVER ? 0 : 1;
            words[Law.KNOWS] = believesFrom[to] == NEVER ? 0 : 1;
            words[Law.MOUTHS] = Integer.bitCount(heard[who]);
            words[Law.SHORTEST] = law.asks(Law.SHORTEST) ? now[who].shortest() : 0;
            words[Law.ROWS] = law.asks(Law.ROWS) ? now[who].size() : 0;
            words[Law.SEES] = isFirst(who) ? 1 : 0;
            return law.lets(words);
        }

        private void close(int hour) {
            for (int p = 0; p < PEOPLE; p++) {
                if (bit(changed, p) == 0) {
                    continue;
                }
                heard[p] = heardBehind[p];
                now[p].takeOver(behind[p]);
                if (hasFrom[p] == NEVER && !now[p].isEmpty()) {
                    hasFrom[p] = hour;
                }
                if (believesFrom[p] == NEVER) {
                    parts.look(now[p]);
                    believesFrom[p] = parts.find(town.need[p]) ? hour : NEVER;
                }
                if (p == watcher && watchedFrom == NEVER && now[p].contains(watched)) {
                    watchedFrom = hour;
                }
            }
            changed = 0;
        }

        /** Those who believe it, as bits. */
        private int believing() {
            int set = 0;
            for (int p = 0; p < PEOPLE; p++) {
                if (believesFrom[p] != NEVER) {
                    set |= 1 << p;
                }
            }
            return set;
        }

        private int believers() {
            return Integer.bitCount(believing());
        }

        private int reached() {
            int many = 0;
            for (int p = 0; p < PEOPLE; p++) {
                if (hasFrom[p] != NEVER) {
                    many++;
                }
            }
            return many;
        }
    }

    /** Looks for the WAY of the ROW that a spread has watched. */
    private static final class WayFinder {
        private final Spread spread;
        private final int[] path = new int[PEOPLE];
        private int goal;

        private WayFinder(Spread spread) {
            this.spread = spread;
        }

        private int stepOf(int person, int row, int k) {
            goal = person;
            if (k < 0 || k >= PEOPLE || !goOn(0, NONE, row, 0)) {
                return NEVER;
            }
            return path[k];
        }

        /** The mouths still to come are rest; the next one is speaker, or at first any FIRST one. */
        private boolean goOn(int depth, int speaker, int rest, int hour) {
            if (depth >= PEOPLE) {
                return false;
            }
            for (int t = 0; t < spread.talks.size; t++) {
                int who = spread.talks.who[t];
                boolean speaks = speaker == NONE ? spread.isFirst(who) : who == speaker;
                if (speaks && bit(rest, who) != 0 && isHeardBehind(t, hour)) {
                    path[depth] = t;
                    if (arrives(depth, t, rest & ~(1 << who))) {
                        return true;
                    }
                }
            }
            return false;
        }

        private boolean isHeardBehind(int talk, int hour) {
            Talks talks = spread.talks;
            int when = talks.hour[talk];
            return when > hour && when <= spread.watchedFrom && bit(spread.told, talk) != 0
                    && spread.town.hears(talks.to[talk], talks.who[talk], when);
        }

        private boolean arrives(int depth, int talk, int rest) {
            int to = spread.talks.to[talk];
            int hour = spread.talks.hour[talk];
            if (rest == 0) {
                return to == goal && hour == spread.watchedFrom;
            }
            return bit(rest, to) != 0 && goOn(depth + 1, to, rest, hour);
        }
    }
}
