import java.lang.management.ManagementFactory;

/**
 * All calls of one run live in one room, so no call may make anything: what is needed is made with
 * the object, and that is not much.
 */
public final class RoomTest {
    private static final int OBJECTS = 50;
    private static final long MOST_BYTES_OF_AN_OBJECT = 48_000;
    // What the machine itself may make while it measures.
    private static final long MOST_BYTES_OF_CALLS = 500;

    private static final com.sun.management.ThreadMXBean COUNTER =
            (com.sun.management.ThreadMXBean) ManagementFactory.getThreadMXBean();

    private static int sum;

    private static long made() {
        return COUNTER.getCurrentThreadAllocatedBytes();
    }

    private static TwoMouths fresh() {
        StringBuilder town = new StringBuilder("need 9 3;need 8 1");
        for (int i = 0; i < 30; i++) {
            town.append(";talk").append(i * 7 % 10).append(' ').append((i * 7 + 1 + i % 9) % 10).append(' ')
                    .append(1 + 2 * i);
        }
        Check c = new Check("room");
        c.town(town.toString(), 30).law("tell rows+shortest+mouths+sees>0 and [not 1=2 or 2=3]", 0);
        return c.x;
    }

    private static long bytesOfCalls(TwoMouths x) {
        long before = made();
        for (int i = 0; i < 4; i++) {
            askAll(x, i);
        }
        return made() - before;
    }

    private static long bytesOfObjects() {
        long before = made();
        for (int i = 0; i < OBJECTS; i++) {
            sum += new TwoMouths().count(0);
        }
        return (made() - before) / OBJECTS;
    }

    public static void main(String[] args) {
        bytesOfCalls(fresh());
        long calls = bytesOfCalls(fresh());
        long object = bytesOfObjects();
        System.out.println("an object takes " + object + " bytes, all calls on it " + calls);
        if (object > MOST_BYTES_OF_AN_OBJECT || calls > MOST_BYTES_OF_CALLS) {
            System.exit(1);
        }
    }

    private static void askAll(TwoMouths x, int i) {
        sum += x.first(7 << i) + x.silent(i << 8) + x.seed(i) + x.talk(0, 1, 2) + x.talks(i, 0) + x.person(i, 0);
        sum += x.entry(x.talks(i, 0), x.talks(i, 1), x.talks(i, 2)) + x.book(0) + x.book(1) + x.image(i) + x.back(i);
        for (int p = 0; p < 10; p++) {
            sum += x.believes(0, p) + x.has(0, p) + x.known(0, p, 99, 4) + x.row(0, p, 99, 7) + x.rowAt(0, p, 99, i);
            sum += x.mouths(0, p, 99, 0) + x.turn(0, p) + x.byBook(0, p) + x.apart(0, p, 99) + x.weight(0, p, 99);
            sum += x.reach(p, 0) + x.way(0, p, x.rowAt(0, p, 99, i), 0) + x.moved(0, i, p, 0) + x.silence(0, p);
            sum += x.letter(0, p, 5) + x.tried(0, 20, 3, p, 99, 1) + x.tells(0, p) + x.count(p);
        }
        sum += x.spread(0, 99, 0) + x.last(0) + x.fewest(0, 255, 1023, 99) + x.crier(0, 99, 0) + x.lies(0);
        sum += x.doubts(0, 99) + x.two(0, 56, 99, 2) + x.feed(1, 2, 3, 4, 5) + x.end(20) + x.town() + x.law();
    }
}
