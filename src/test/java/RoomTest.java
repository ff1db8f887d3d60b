import java.lang.management.ManagementFactory;

/** All calls of a run live in one room: what an object and its dearest calls make is counted here, in bytes. */
public final class RoomTest {
    private static final com.sun.management.ThreadMXBean THREADS =
        (com.sun.management.ThreadMXBean) ManagementFactory.getThreadMXBean();
    private static int wrong = 0;

    private static long bytes() {
        return THREADS.getThreadAllocatedBytes(Thread.currentThread().getId());
    }

    private static void check(String what, long used, long most) {
        System.out.println(what + ": " + used + " bytes");
        if (used > most) {
            wrong++;
            System.out.println("  more than " + most);
        }
    }

    private static void put(EngineShed x, String s) {
        for (int at = 0; at < s.length(); at += 20) {
            int[] w = new int[5];
            for (int i = 0; i < 20; i++) w[i / 4] = w[i / 4] << 8 | (at + i < s.length() ? s.charAt(at + i) : 32);
            x.feed(w[0], w[1], w[2], w[3], w[4]);
        }
    }

    private static EngineShed fullBoard() {
        EngineShed x = new EngineShed();
        for (int i = 0; i < 5; i++) x.shed();
        for (int i = 0; i < 9; i++) x.engine(i % 6, i % 5);
        for (int i = 0; i < 8; i++) x.man(255);
        for (int i = 0; i < 12; i++) x.turn(i % 5, (i + 1) % 5, i, i + 2, 10 * i, i, i % 8, i % 4 == 3);
        for (int i = 0; i < 7; i++) {
            x.lines(false, i);
            x.lines(true, (i * 3) % 7);
        }
        for (int t = 0; t < 6; t++) {
            StringBuilder s = new StringBuilder();
            for (int i = 0; i < 24; i++) {
                String name = "" + (char) ('a' + t) + (char) ('a' + i);
                s.append(i % 3 == 0 ? "bar " : i % 3 == 1 ? "due " : "wear ").append(name);
                s.append(i % 3 == 2 ? " miles * 2 - (worn + 1) / 3 if " : " if ").append("day * 100 + load < 0;");
            }
            put(x, s.toString());
            if (x.read() != 0) wrong++;
        }
        for (int i = 0; i < 180; i++) {
            if (i % 9 == 8) x.fails(i % 5, i / 2, 5);
            else if (i % 9 == 7) x.fact(2, i % 5, i / 2);
            else x.run(i % 9, i % 12, i % 8, i / 3);
        }
        return x;
    }

    private static void askAll(EngineShed x, int i) {
        x.state(i % 9, i % 120, i % 181, i % 7);
        x.isVoid(i % 180, 180);
        x.held(i % 180, 180 - i % 3, i % 5);
        x.due(i % 9, i % 120, 180);
        x.beyond(0, 119, 180 - i % 2);
        x.help(i % 180, 180);
        x.coal(i % 5, i % 120, 180);
        x.owes(i % 5, (i + 1) % 5, -1, i % 120, 180);
        x.best(i % 120, 255, i % 181);
        x.roads(1 + i % 3);
        x.months(31, 5, 2, 15, 1);
        x.causes(180);
        x.cause(180, 0);
        x.turned(180, i % 180);
        x.rules(i % 120);
    }

    public static void main(String[] args) {
        bytes();
        new EngineShed();
        long start = bytes();
        EngineShed x = new EngineShed();
        check("a new object", bytes() - start, 24000);
        start = bytes();
        x = fullBoard();
        check("a full board, with what the test makes", bytes() - start, 400000);
        askAll(x, 0);
        start = bytes();
        for (int i = 0; i < 300; i++) askAll(x, i);
        check("4500 questions", bytes() - start, 1000);
        if (wrong != 0) System.exit(1);
    }
}
