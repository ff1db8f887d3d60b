/** Boundary cases of the document's part I: a new object, what a board holds, and what it takes (1, 6 to 17, 42). */
public final class BoundsBoardTest {
    private static final int NONE = Bounds.NONE;
    private static final int MIN = Bounds.MIN;
    private static final int MAX = Bounds.MAX;

    public static void main(String[] args) {
        newObject();
        newObjectIsRefused();
        life();
        sheds();
        ways();
        waysBetweenAll();
        engines();
        men();
        turns();
        spareTurns();
        turnNumbers();
        runs();
        miles();
        facts();
        shops();
        fails();
        lents();
        coals();
        fullOfFacts();
        lastFacts();
        counts();
        Bounds.finish();
    }

    private static void holds(int promise, String words) {
        Bounds.holds(promise, words);
    }

    private static void due(String call, int got, int want) {
        Bounds.due(call, got, want);
    }

    private static void refused(String call, Bounds.Call c) {
        Bounds.refused(Bounds::yard, call, NONE, c);
    }

    private static void refusedFull(String call, Bounds.Call c) {
        Bounds.refused(Bounds::fullYard, call, NONE, c);
    }

    // ---- a new object

    private static void newObject() {
        holds(1, "Nothing is there.");
        EngineShed x = new EngineShed();
        due("NONE", EngineShed.NONE, -1);
        for (int what = 0; what <= 6; what++) due("count(" + what + ")", x.count(what), 0);
        for (int day = 0; day < 120; day++) due("rules(" + day + ")", x.rules(day), 0);
        due("place", x.place(), NONE);
        due("lack", x.lack(), NONE);
        due("given", x.given(0), NONE);
        due("road", x.road(0), NONE);
        due("month", x.month(0), NONE);
        due("back(0)", x.back(0), 0);
        due("beyond", x.beyond(0, 119, 0), 0);
        due("causes", x.causes(0), 0);
        due("turned", x.turned(0, 0), NONE);
        due("best of no turns", x.best(0, 0, 0), 0);
        due("lack", x.lack(), 0);
        due("read", x.read(), 0);
        due("texts", x.count(5), 1);
        x.shed();
        due("another new one", new EngineShed().count(0), 0);
        due("its texts", new EngineShed().count(5), 0);
        due("its lack", new EngineShed().lack(), NONE);
    }

    private static void newObjectIsRefused() {
        Bounds.Maker empty = Bounds::empty;
        Bounds.refused(empty, "rule", NONE, x -> x.rule(0, 0, 0));
        Bounds.refused(empty, "back(1)", NONE, x -> x.back(1));
        Bounds.refused(empty, "way", 0, x -> x.way(0, 1, 1) ? 1 : 0);
        Bounds.refused(empty, "engine", NONE, x -> x.engine(0, 0));
        Bounds.refused(empty, "turn", NONE, x -> x.turn(0, 0, 0, 1, 0, 0, 0, false));
        Bounds.refused(empty, "spare turn", NONE, x -> x.turn(0, 0, 0, 1, 0, 0, 0, true));
        Bounds.refused(empty, "run", NONE, x -> x.run(0, 0, 0, 0));
        Bounds.refused(empty, "mile", NONE, x -> x.mile(0, 0));
        Bounds.refused(empty, "fact", NONE, x -> x.fact(0, 0, 0));
        Bounds.refused(empty, "shops", NONE, x -> x.shops(0, 0, 1));
        Bounds.refused(empty, "fails", NONE, x -> x.fails(0, 0, 0));
        Bounds.refused(empty, "lent", NONE, x -> x.lent(0, 0, 0));
        Bounds.refused(empty, "coals", NONE, x -> x.coals(0, 0, 0));
        Bounds.refused(empty, "state", NONE, x -> x.state(0, 0, 0, 0));
        Bounds.refused(empty, "isVoid", NONE, x -> x.isVoid(0, 0));
        Bounds.refused(empty, "held", NONE, x -> x.held(0, 0, 0));
        Bounds.refused(empty, "bar", NONE, x -> x.bar(0, 0));
        Bounds.refused(empty, "due", NONE, x -> x.due(0, 0, 0));
        Bounds.refused(empty, "beyond by 1", NONE, x -> x.beyond(0, 119, 1));
        Bounds.refused(empty, "help", NONE, x -> x.help(0, 0));
        Bounds.refused(empty, "coal", Bounds.OUTSIDE, x -> x.coal(0, 0, 0));
        Bounds.refused(empty, "owes", Bounds.OUTSIDE, x -> x.owes(0, 1, NONE, 0, 0));
        Bounds.refused(empty, "best of a turn", NONE, x -> x.best(0, 1, 0));
        Bounds.refused(empty, "best by 1", NONE, x -> x.best(0, 0, 1));
        Bounds.refused(empty, "lines", NONE, x -> x.lines(false, 0));
        Bounds.refused(empty, "roads", NONE, x -> x.roads(1));
        Bounds.refused(empty, "may", 0, x -> x.may(0, 0, true) ? 1 : 0);
        Bounds.refused(empty, "months of none", NONE, x -> x.months(0, 1, 1, 0, 0));
        Bounds.refused(empty, "months", NONE, x -> x.months(1, 1, 1, 0, 0));
        Bounds.refused(empty, "causes by 1", NONE, x -> x.causes(1));
        Bounds.refused(empty, "cause", NONE, x -> x.cause(0, 0));
        Bounds.refused(empty, "turned by 1", NONE, x -> x.turned(0, 1));
    }

    private static void life() {
        holds(42, "An object is used for at most 512 calls after it has been made; what later calls answer is free.");
        EngineShed x = Bounds.fullYard();
        EngineShed y = new EngineShed();
        for (int i = 0; i < 508; i++) y.count(i % 9 - 1);
        due("the 509th call", y.shed(), 0);
        due("the 510th call", y.engine(5, 0), 0);
        due("the 511th call", y.fact(1, 0, 119), 0);
        due("the 512th call", y.state(0, 119, 1, 5), 0);
        for (int i = 0; i < 200; i++) x.read();
        due("texts of a full one", x.count(5), 6);
    }

    // ---- sheds and ways

    private static void sheds() {
        holds(6, "A SHED: its number; NONE: 5 are there.");
        EngineShed x = new EngineShed();
        for (int i = 0; i < 5; i++) {
            due("an engine at shed " + i + " ahead of it", x.engine(0, i), NONE);
            due("shed " + i, x.shed(), i);
            due("sheds", x.count(0), i + 1);
        }
        due("a 6th", x.shed(), NONE);
        due("sheds", x.count(0), 5);
        Bounds.refused(() -> Bounds.sheds(5), "a 6th", NONE, EngineShed::shed);
        refusedFull("a 6th", EngineShed::shed);
        holds(6, "SHEDS, 5 at most");
        EngineShed y = Bounds.sheds(5);
        due("an engine at the 5th", y.engine(0, 4), 5);
        due("one beyond it", y.engine(0, 5), NONE);
    }

    /** Engine 0 fails at shed 0 on day 0; engines 1 and 2 are spare at the sheds 1 and 2. */
    private static EngineShed waysBoard() {
        EngineShed x = Bounds.sheds(3);
        for (int s = 0; s < 3; s++) x.turn(s, s, 0, 2, 0, 0, 0, true);
        x.fails(0, 0, 1);
        x.run(1, 1, 1, 0);
        x.run(2, 2, 2, 0);
        return x;
    }

    private static void ways() {
        holds(7, "a WAY of hours (0 .. 9; 1 at first) between any two, the same both ways (0 from one to itself)");
        EngineShed x = waysBoard();
        due("both 1 at first: the least", x.help(0, 3), 1);
        x.way(0, 2, 0);
        due("0 is less than it is at first", x.help(0, 3), 2);
        x.way(0, 2, 1);
        due("1 is as at first", x.help(0, 3), 1);
        for (int h = 1; h <= 9; h++) {
            EngineShed y = waysBoard();
            Bounds.due("way(0, 1, " + h + ")", y.way(0, 1, h), true);
            Bounds.due("way(2, 0, " + (h - 1) + ")", y.way(2, 0, h - 1), true);
            due(h + " and " + (h - 1), y.help(0, 3), 2);
            y.way(2, 0, h);
            due("both " + h, y.help(0, 3), 1);
            y.way(1, 0, h - 1);
            y.way(0, 2, h);
            due(h - 1 + " and " + h, y.help(0, 3), 1);
        }
        EngineShed z = Bounds.sheds(3);
        z.engine(0, 0);
        for (int s = 0; s < 3; s++) z.turn(s, s, 0, 2, 0, 0, 0, true);
        z.fails(0, 0, 1);
        z.run(1, 1, 1, 0);
        z.run(3, 0, 0, 0);
        due("none is farther than 0 from itself", z.help(0, 3), 3);
        z.way(0, 1, 0);
        due("0 both: the least", z.help(0, 3), 1);
        holds(7, "The WAY between two SHEDS becomes h: true; false: no such ones, one and the same, no such h.");
        EngineShed w = Bounds.sheds(5);
        Bounds.due("way(4, 0, 0)", w.way(4, 0, 0), true);
        Bounds.due("way(0, 4, 9)", w.way(0, 4, 9), true);
        Bounds.due("way(3, 4, 9)", w.way(3, 4, 9), true);
        int[][] no = {{0, 1, 10}, {0, 1, -1}, {0, 0, 1}, {2, 2, 0}, {0, 3, 1}, {3, 0, 1}, {-1, 0, 1}, {0, -1, 1},
            {0, 1, MAX}, {0, 1, MIN}, {MAX, 0, 1}, {0, MIN, 1}, {3, 3, 0}, {-1, -1, 0}, {4, 2, 2}};
        for (int[] a : no) {
            String call = "way(" + a[0] + ", " + a[1] + ", " + a[2] + ")";
            Bounds.refused(Bounds::yard, call, 0, y -> y.way(a[0], a[1], a[2]) ? 1 : 0);
            EngineShed y = waysBoard();
            y.way(0, 1, 4);
            y.way(a[0], a[1], a[2]);
            y.way(0, 2, 3);
            due("the way is 4 yet, behind " + call, y.help(0, 3), 2);
            y.way(0, 2, 4);
            due("no more than 4, behind " + call, y.help(0, 3), 1);
        }
    }

    private static void waysBetweenAll() {
        holds(7, "between any two, the same both ways");
        for (int a = 0; a < 5; a++) {
            for (int b = 0; b < 5; b++) {
                for (int c = 0; c < 5; c++) {
                    if (a != b && a != c && b != c) wayOf(a, b, c);
                }
            }
        }
    }

    /** That the way between a and b is its own: engine 0 fails at a, 1 is spare at b, 2 at c. */
    private static void wayOf(int a, int b, int c) {
        EngineShed x = new EngineShed();
        for (int i = 0; i < 5; i++) x.shed();
        for (int s : new int[] {a, b, c}) {
            x.engine(0, s);
            x.man(255);
            x.turn(s, s, 0, 1, 0, 0, 0, true);
        }
        x.fails(0, 0, 0);
        x.run(1, 1, 1, 0);
        x.run(2, 2, 2, 0);
        String which = a + " from " + b + " and " + c;
        due(which + ": as at first", x.help(0, 3), 1);
        for (int i = 0; i < 5; i++) {
            for (int j = 0; j < 5; j++) if (i != j) x.way(i, j, 9);
        }
        x.way(b, a, 3);
        x.way(a, c, 2);
        due(which + ": 3 and 2", x.help(0, 3), 2);
        x.way(c, a, 3);
        due(which + ": both 3", x.help(0, 3), 1);
        x.way(a, b, 4);
        due(which + ": 4 and 3", x.help(0, 3), 2);
    }

    // ---- engines, men

    private static void engines() {
        holds(8, "An ENGINE: its number. NONE, and nothing happens: 9 are there, no such CLASS, SHED.");
        EngineShed x = new EngineShed();
        x.shed();
        x.shed();
        for (int i = 0; i < 9; i++) {
            due("engine " + i, x.engine(i % 2 * 5, i % 2), i);
            due("engines", x.count(1), i + 1);
            due("its shed", x.state(i, 0, 0, 0), i % 2);
            due("one beyond it", x.state(i + 1, 0, 0, 0), NONE);
        }
        due("a 10th", x.engine(0, 0), NONE);
        due("engines", x.count(1), 9);
        refusedFull("a 10th", y -> y.engine(0, 0));
        refused("class 6", y -> y.engine(6, 0));
        refused("class -1", y -> y.engine(-1, 0));
        refused("class MAX", y -> y.engine(MAX, 0));
        refused("class MIN", y -> y.engine(MIN, 0));
        refused("home 3 of 3", y -> y.engine(0, 3));
        refused("home -1", y -> y.engine(0, -1));
        refused("home MAX", y -> y.engine(0, MAX));
        refused("home MIN", y -> y.engine(0, MIN));
        holds(8, "a CLASS (0 .. 5), a HOME");
        EngineShed y = Bounds.yard();
        due("class 5, home 2 of 3", y.engine(5, 2), 3);
        due("class 0, home 0", y.engine(0, 0), 4);
        y.lent(3, 0, 9);
        due("it is of class 5", y.owes(0, 2, 5, 9, 13), 1);
        due("not of class 4", y.owes(0, 2, 4, 9, 13), 0);
    }

    private static void men() {
        holds(9, "A MAN: its number. NONE, and nothing happens: 8 are there, no such LINES (0 .. 255).");
        EngineShed x = new EngineShed();
        for (int i = 0; i < 8; i++) {
            due("man " + i, x.man(i % 2 * 255), i);
            due("men", x.count(2), i + 1);
        }
        due("a 9th", x.man(0), NONE);
        due("men", x.count(2), 8);
        refusedFull("a 9th", y -> y.man(255));
        refused("lines 256", y -> y.man(256));
        refused("lines -1", y -> y.man(-1));
        refused("lines MAX", y -> y.man(MAX));
        refused("lines MIN", y -> y.man(MIN));
        holds(9, "LINES that they know (bits 0 .. 7)");
        EngineShed y = Bounds.sheds(1);
        for (int line = 0; line < 8; line++) y.turn(0, 0, 0, 1, 0, 0, line, false);
        for (int line = 0; line < 7; line++) y.man(1 << line);
        int facts = 0;
        for (int man = 1; man < 8; man++) {
            for (int line = 0; line < 8; line++) {
                int run = y.run(0, line, man, man * 10 + line);
                facts++;
                due("man of line " + (man - 1) + " on line " + line, y.isVoid(run, facts), line == man - 1 ? 0 : 6);
            }
        }
        EngineShed z = Bounds.sheds(1);
        z.man(128);
        z.man(0);
        z.turn(0, 0, 0, 1, 0, 0, 7, false);
        z.turn(0, 0, 0, 1, 0, 0, 0, false);
        z.run(0, 0, 1, 0);
        z.run(0, 1, 1, 1);
        z.run(0, 1, 2, 2);
        due("bit 7, line 7", z.isVoid(0, 3), 0);
        due("bit 7, line 0", z.isVoid(1, 3), 6);
        due("no bit, line 0", z.isVoid(2, 3), 6);
    }

    // ---- turns

    private static EngineShed yardOfFour() {
        EngineShed x = Bounds.yard();
        x.shed();
        return x;
    }

    private static int turn(EngineShed x, int[] t, boolean spare) {
        return x.turn(t[0], t[1], t[2], t[3], t[4], t[5], t[6], spare);
    }

    private static String told(int[] t, boolean spare) {
        return "turn(" + java.util.Arrays.toString(t) + ", " + spare + ")";
    }

    private static void turns() {
        holds(10, "of hours a .. b (0 .. 24, a below b), MILES (0 .. 400), a LOAD (0 .. 99), a LINE (0 .. 7)");
        int[][] yes = {{0, 0, 0, 1, 0, 0, 0}, {2, 2, 23, 24, 400, 99, 7}, {0, 2, 0, 24, 0, 99, 0}, {2, 0, 5, 6, 400, 0, 7}};
        for (int[] t : yes) {
            EngineShed x = Bounds.yard();
            due(told(t, false), turn(x, t, false), 5);
            due(told(t, true), turn(x, t, true), 6);
            due("turns", x.count(3), 7);
        }
        holds(10, "NONE, and nothing happens: 12 are there, no such ones.");
        int[][] no = {{-1, 0, 0, 1, 0, 0, 0}, {3, 0, 0, 1, 0, 0, 0}, {MIN, 0, 0, 1, 0, 0, 0}, {MAX, 0, 0, 1, 0, 0, 0},
            {0, -1, 0, 1, 0, 0, 0}, {0, 3, 0, 1, 0, 0, 0}, {0, MIN, 0, 1, 0, 0, 0}, {0, MAX, 0, 1, 0, 0, 0},
            {0, 0, -1, 1, 0, 0, 0}, {0, 0, -1, 0, 0, 0, 0}, {0, 0, 0, 25, 0, 0, 0}, {0, 0, 24, 25, 0, 0, 0},
            {0, 0, 0, 0, 0, 0, 0}, {0, 0, 24, 24, 0, 0, 0}, {0, 0, 7, 7, 0, 0, 0}, {0, 0, 8, 7, 0, 0, 0},
            {0, 0, 24, 0, 0, 0, 0}, {0, 0, MIN, MAX, 0, 0, 0}, {0, 0, 0, MIN, 0, 0, 0}, {0, 0, MAX, 24, 0, 0, 0},
            {0, 0, 0, 1, -1, 0, 0}, {0, 0, 0, 1, 401, 0, 0}, {0, 0, 0, 1, MIN, 0, 0}, {0, 0, 0, 1, MAX, 0, 0},
            {0, 0, 0, 1, 0, -1, 0}, {0, 0, 0, 1, 0, 100, 0}, {0, 0, 0, 1, 0, MIN, 0}, {0, 0, 0, 1, 0, MAX, 0},
            {0, 0, 0, 1, 0, 0, -1}, {0, 0, 0, 1, 0, 0, 8}, {0, 0, 0, 1, 0, 0, MIN}, {0, 0, 0, 1, 0, 0, MAX}};
        for (int[] t : no) refused(told(t, false), x -> turn(x, t, false));
        EngineShed y = yardOfFour();
        due("from a 4th shed", y.turn(3, 0, 0, 1, 0, 0, 0, false), 5);
        due("to a 4th shed", y.turn(0, 3, 0, 1, 0, 0, 0, false), 6);
        holds(10, "TURNS, 12 at most");
        EngineShed x = Bounds.sheds(1);
        for (int i = 0; i < 12; i++) {
            due("turn " + i, x.turn(0, 0, 0, 1, 0, 0, 0, i % 2 == 1), i);
            due("turns", x.count(3), i + 1);
        }
        due("a 13th", x.turn(0, 0, 0, 1, 0, 0, 0, false), NONE);
        due("a spare 13th", x.turn(0, 0, 0, 1, 0, 0, 0, true), NONE);
        due("turns", x.count(3), 12);
        refusedFull("a 13th", z -> z.turn(0, 0, 0, 1, 0, 0, 0, false));
        refusedFull("a spare 13th", z -> z.turn(0, 0, 0, 1, 0, 0, 0, true));
    }

    private static void spareTurns() {
        holds(10, "(a SPARE one: to and miles are of no matter)");
        int[][] yes = {{2, -1, 0, 1, 0, 0, 0}, {2, 3, 0, 1, 0, 0, 0}, {2, MIN, 0, 1, MAX, 0, 0}, {2, MAX, 0, 1, MIN, 0, 0},
            {2, 0, 0, 1, -1, 0, 0}, {2, 0, 0, 1, 401, 0, 0}, {2, 0, 0, 24, 400, 99, 7}};
        for (int[] t : yes) due(told(t, true), turn(Bounds.yard(), t, true), 5);
        int[][] no = {{-1, 0, 0, 1, 0, 0, 0}, {3, 0, 0, 1, 0, 0, 0}, {0, 0, -1, 1, 0, 0, 0}, {0, 0, 0, 25, 0, 0, 0},
            {0, 0, 7, 7, 0, 0, 0}, {0, 0, 8, 7, 0, 0, 0}, {0, 0, 0, 1, 0, -1, 0}, {0, 0, 0, 1, 0, 100, 0},
            {0, 0, 0, 1, 0, 0, -1}, {0, 0, 0, 1, 0, 0, 8}};
        for (int[] t : no) refused(told(t, true), x -> turn(x, t, true));
        holds(10, "a SPARE one ends where it begins and has 0 MILES");
        int[][] told = {{0, 1, 2, 4, 400, 9, 3}, {0, 77, 2, 4, -9, 9, 3}};
        for (int[] t : told) {
            EngineShed x = Bounds.sheds(2);
            Bounds.read(x, "wear w far + 7; coal c spare + 2;");
            turn(x, t, true);
            x.run(0, 0, 0, 0);
            due("it holds", x.isVoid(0, 1), 0);
            due("where it ends", x.state(0, 0, 1, 0), 0);
            due("its miles", x.held(0, 1, 0), 0);
            due("its far", x.held(0, 1, 1), 7);
            due("its spare", x.held(0, 1, 2), 3);
        }
        EngineShed y = Bounds.sheds(2);
        Bounds.read(y, "wear w far + 7; coal c spare + 2;");
        y.turn(0, 1, 2, 4, 400, 9, 3, false);
        y.run(0, 0, 0, 0);
        due("where one that is not spare ends", y.state(0, 0, 1, 0), 1);
        due("its miles", y.held(0, 1, 0), 400);
        due("its far", y.held(0, 1, 1), 407);
        due("its spare", y.held(0, 1, 2), 2);
    }

    private static void turnNumbers() {
        holds(10, "All are numbered from 0 on.");
        EngineShed x = Bounds.fullYard();
        due("turn 11", x.given(11), NONE);
        Bounds.due("may of turn 11", x.may(0, 11, true), true);
        Bounds.due("may of turn 12", x.may(0, 12, true), false);
        due("engine 8", x.state(8, 0, 0, 6), 3);
        due("engine 9", x.state(9, 0, 0, 6), NONE);
    }

    // ---- facts

    private static void runs() {
        holds(11, "A RUN: its FACT. NONE, and nothing happens: 180 are there, no such ones.");
        int[][] yes = {{0, 0, 0, 0}, {2, 4, 2, 119}, {0, 4, 0, 119}, {2, 0, 2, 0}};
        for (int[] r : yes) {
            EngineShed x = Bounds.yard();
            String call = "run(" + java.util.Arrays.toString(r) + ")";
            due(call, x.run(r[0], r[1], r[2], r[3]), 12);
            due("facts behind " + call, x.count(4), 13);
            due("it is a run, " + call, x.isVoid(12, 13) == NONE ? 1 : 0, 0);
        }
        int[][] no = {{-1, 0, 0, 0}, {3, 0, 0, 0}, {MIN, 0, 0, 0}, {MAX, 0, 0, 0}, {0, -1, 0, 0}, {0, 5, 0, 0},
            {0, MIN, 0, 0}, {0, MAX, 0, 0}, {0, 0, -1, 0}, {0, 0, 3, 0}, {0, 0, MIN, 0}, {0, 0, MAX, 0}, {0, 0, 0, -1},
            {0, 0, 0, 120}, {0, 0, 0, MIN}, {0, 0, 0, MAX}};
        for (int[] r : no) refused("run(" + java.util.Arrays.toString(r) + ")", x -> x.run(r[0], r[1], r[2], r[3]));
    }

    private static void miles() {
        holds(12, "A MILE: v (0 .. 9999) of a RUN: its FACT. NONE, and nothing happens: 180 are there, no such RUN, v.");
        EngineShed x = Bounds.yard();
        due("mile(0, 0)", x.mile(0, 0), 12);
        due("none of its miles", x.held(0, 13, 0), 0);
        due("mile(0, 9999)", x.mile(0, 9999), 13);
        due("all of them", x.held(0, 14, 0), 9999);
        due("mile of the latest run", x.mile(10, 3), 14);
        due("of a void one", x.mile(4, 5), 15);
        due("it is void yet", x.isVoid(4, 16), 4);
        EngineShed y = Bounds.yard();
        due("a run", y.run(0, 0, 0, 9), 12);
        due("a mile of the fact ahead of it", y.mile(12, 5), 13);
        int[][] no = {{0, -1}, {0, 10000}, {0, MIN}, {0, MAX}, {-1, 5}, {12, 5}, {13, 5}, {MIN, 5}, {MAX, 5}, {2, 5}, {5, 5},
            {6, 5}, {7, 5}, {8, 5}, {9, 5}, {11, 5}};
        for (int[] m : no) refused("mile(" + m[0] + ", " + m[1] + ")", z -> z.mile(m[0], m[1]));
    }

    private static void facts() {
        holds(13, "kind 0 WASH, 1 LOOK, 2 MENDED, 3 HOME of an ENGINE on a DAY: its FACT. NONE, and nothing happens: 180 are there, no such ones.");
        int[][] yes = {{0, 0, 0}, {3, 2, 119}, {1, 0, 119}, {2, 2, 0}};
        for (int[] f : yes) {
            EngineShed x = Bounds.yard();
            due("fact(" + java.util.Arrays.toString(f) + ")", x.fact(f[0], f[1], f[2]), 12);
            due("facts", x.count(4), 13);
        }
        int[][] no = {{-1, 0, 0}, {4, 0, 0}, {MIN, 0, 0}, {MAX, 0, 0}, {0, -1, 0}, {0, 3, 0}, {0, MIN, 0}, {0, MAX, 0},
            {0, 0, -1}, {0, 0, 120}, {0, 0, MIN}, {0, 0, MAX}};
        for (int[] f : no) refused("fact(" + java.util.Arrays.toString(f) + ")", x -> x.fact(f[0], f[1], f[2]));
        EngineShed x = Bounds.sheds(2);
        x.turn(0, 1, 1, 2, 50, 0, 0, false);
        x.run(0, 0, 0, 1);
        x.lent(0, 1, 2);
        x.fails(0, 2, 0);
        due("kind 2", x.fact(2, 0, 3), 3);
        due("it is mended", x.state(0, 3, 4, 1), 0);
        due("kind 0", x.fact(0, 0, 4), 4);
        due("it is washed", x.state(0, 4, 5, 4), 0);
        due("not looked at", x.state(0, 4, 5, 5), 4);
        due("kind 1", x.fact(1, 0, 5), 5);
        due("it is looked at", x.state(0, 5, 6, 5), 0);
        due("not washed", x.state(0, 5, 6, 4), 1);
        due("kind 3", x.fact(3, 0, 6), 6);
        due("its keeper", x.state(0, 6, 7, 6), 0);
    }

    private static void shops() {
        holds(14, "SHOPS of an ENGINE from a DAY until one (0 .. 119): its FACT. NONE, and nothing happens: 180 are there, no such ones.");
        int[][] yes = {{0, 0, 0}, {2, 119, 0}, {0, 0, 119}, {2, 119, 119}, {1, 118, 119}};
        for (int[] s : yes) {
            EngineShed x = Bounds.yard();
            due("shops(" + java.util.Arrays.toString(s) + ")", x.shops(s[0], s[1], s[2]), 12);
            due("facts", x.count(4), 13);
        }
        int[][] no = {{-1, 0, 5}, {3, 0, 5}, {MIN, 0, 5}, {MAX, 0, 5}, {0, -1, 5}, {0, 120, 5}, {0, MIN, 5}, {0, MAX, 5},
            {0, 0, -1}, {0, 0, 120}, {0, 0, MIN}, {0, 0, MAX}};
        for (int[] s : no) refused("shops(" + java.util.Arrays.toString(s) + ")", x -> x.shops(s[0], s[1], s[2]));
    }

    private static void fails() {
        holds(15, "FAILS of an ENGINE on a DAY at an hour (0 .. 23): its FACT. NONE, and nothing happens: 180 are there, no such ones.");
        int[][] yes = {{0, 0, 0}, {2, 119, 23}, {0, 119, 0}, {2, 0, 23}};
        for (int[] f : yes) {
            EngineShed x = Bounds.yard();
            due("fails(" + java.util.Arrays.toString(f) + ")", x.fails(f[0], f[1], f[2]), 12);
            due("facts", x.count(4), 13);
        }
        int[][] no = {{-1, 0, 0}, {3, 0, 0}, {MIN, 0, 0}, {MAX, 0, 0}, {0, -1, 0}, {0, 120, 0}, {0, MIN, 0}, {0, MAX, 0},
            {0, 0, -1}, {0, 0, 24}, {0, 0, MIN}, {0, 0, MAX}};
        for (int[] f : no) refused("fails(" + java.util.Arrays.toString(f) + ")", x -> x.fails(f[0], f[1], f[2]));
    }

    private static void lents() {
        holds(16, "LENT of an ENGINE to a SHED on a DAY: its FACT. NONE, and nothing happens: 180 are there, no such ones.");
        int[][] yes = {{0, 0, 0}, {2, 2, 119}, {0, 2, 0}, {2, 0, 119}};
        for (int[] l : yes) {
            EngineShed x = Bounds.yard();
            due("lent(" + java.util.Arrays.toString(l) + ")", x.lent(l[0], l[1], l[2]), 12);
            due("facts", x.count(4), 13);
        }
        int[][] no = {{-1, 0, 0}, {3, 0, 0}, {MIN, 0, 0}, {MAX, 0, 0}, {0, -1, 0}, {0, 3, 0}, {0, MIN, 0}, {0, MAX, 0},
            {0, 0, -1}, {0, 0, 120}, {0, 0, MIN}, {0, 0, MAX}};
        for (int[] l : no) refused("lent(" + java.util.Arrays.toString(l) + ")", x -> x.lent(l[0], l[1], l[2]));
        due("to a 4th shed", yardOfFour().lent(0, 3, 0), 12);
    }

    private static void coals() {
        holds(17, "COALS: v tons (0 .. 9999) for a SHED on a DAY: its FACT. NONE, and nothing happens: 180 are there, no such ones.");
        int[][] yes = {{0, 0, 0}, {2, 119, 9999}, {0, 119, 9999}, {2, 0, 0}};
        for (int[] c : yes) {
            EngineShed x = Bounds.yard();
            int had = x.coal(c[0], c[1], 12);
            due("coals(" + java.util.Arrays.toString(c) + ")", x.coals(c[0], c[1], c[2]), 12);
            due("facts", x.count(4), 13);
            due("tons more", x.coal(c[0], c[1], 13) - had, c[2]);
        }
        int[][] no = {{-1, 0, 0}, {3, 0, 0}, {MIN, 0, 0}, {MAX, 0, 0}, {0, -1, 0}, {0, 120, 0}, {0, MIN, 0}, {0, MAX, 0},
            {0, 0, -1}, {0, 0, 10000}, {0, 0, MIN}, {0, 0, MAX}};
        for (int[] c : no) refused("coals(" + java.util.Arrays.toString(c) + ")", x -> x.coals(c[0], c[1], c[2]));
        due("for a 4th shed", yardOfFour().coals(3, 0, 1), 12);
    }

    private static void fullOfFacts() {
        holds(11, "NONE, and nothing happens: 180 are there, no such ones.");
        refusedFull("a 181st run", x -> x.run(0, 0, 0, 0));
        holds(12, "NONE, and nothing happens: 180 are there, no such RUN, v.");
        refusedFull("a 181st mile", x -> x.mile(0, 5));
        holds(13, "NONE, and nothing happens: 180 are there, no such ones.");
        for (int kind = 0; kind < 4; kind++) {
            int k = kind;
            refusedFull("a 181st fact of kind " + k, x -> x.fact(k, 0, 0));
        }
        holds(14, "NONE, and nothing happens: 180 are there, no such ones.");
        refusedFull("a 181st shops", x -> x.shops(0, 0, 1));
        holds(15, "NONE, and nothing happens: 180 are there, no such ones.");
        refusedFull("a 181st fails", x -> x.fails(0, 0, 0));
        holds(16, "NONE, and nothing happens: 180 are there, no such ones.");
        refusedFull("a 181st lent", x -> x.lent(0, 1, 0));
        holds(17, "NONE, and nothing happens: 180 are there, no such ones.");
        refusedFull("a 181st coals", x -> x.coals(0, 0, 1));
    }

    /** A board with 179 facts, 178 runs of engine 0, two a day, and a look. */
    private static EngineShed nearlyFull() {
        EngineShed x = Bounds.sheds(2);
        x.turn(0, 0, 1, 2, 1, 0, 0, false);
        x.turn(0, 0, 3, 4, 1, 0, 0, false);
        for (int i = 0; i < 179; i++) {
            if (i % 90 == 89) x.fact(1, 1, i % 90);
            else x.run(0, i / 90, 0, i % 90);
        }
        return x;
    }

    private static void lastFact(String call, Bounds.Call c) {
        EngineShed x = nearlyFull();
        due("facts ahead of it", x.count(4), 179);
        due("the 180th, " + call, c.on(x), 179);
        due("facts behind it", x.count(4), 180);
        due("a 181st, " + call, c.on(x), NONE);
        due("facts yet", x.count(4), 180);
    }

    private static void lastFacts() {
        holds(11, "FACTS, numbered from 0 on, 180 at most");
        lastFact("run", x -> x.run(0, 0, 0, 119));
        holds(12, "FACTS, numbered from 0 on, 180 at most");
        lastFact("mile", x -> x.mile(178, 9));
        holds(13, "FACTS, numbered from 0 on, 180 at most");
        for (int kind = 0; kind < 4; kind++) {
            int k = kind;
            lastFact("fact of kind " + k, x -> x.fact(k, 1, 119));
        }
        holds(14, "FACTS, numbered from 0 on, 180 at most");
        lastFact("shops", x -> x.shops(1, 0, 119));
        holds(15, "FACTS, numbered from 0 on, 180 at most");
        lastFact("fails", x -> x.fails(1, 0, 23));
        holds(16, "FACTS, numbered from 0 on, 180 at most");
        lastFact("lent", x -> x.lent(1, 0, 119));
        holds(17, "FACTS, numbered from 0 on, 180 at most");
        lastFact("coals", x -> x.coals(1, 119, 9999));
        holds(11, "FACTS, numbered from 0 on, 180 at most");
        EngineShed x = nearlyFull();
        due("a run of all 180", x.run(0, 0, 0, 119), 179);
        due("it holds", x.isVoid(179, 180), 0);
        due("its miles ahead", x.held(179, 180, 4), 178);
        due("not known by 179", x.isVoid(179, 179), NONE);
        due("a mile is too much", x.mile(179, 5), NONE);
        due("its miles", x.held(179, 180, 0), 1);
        EngineShed y = nearlyFull();
        due("the 180th is a mile of the 179th", y.mile(178, 9999), 179);
        due("known by 180", y.held(178, 180, 0), 9999);
        due("known by 179", y.held(178, 179, 0), 1);
    }

    private static void counts() {
        holds(42, "0 SHEDS, 1 ENGINES, 2 MEN, 3 TURNS, 4 FACTS, 5 texts, 6 bytes on the tape. NONE for others.");
        int[] some = {3, 3, 3, 5, 12, 2, 17};
        int[] all = {5, 9, 8, 12, 180, 6, 19};
        EngineShed x = Bounds.yard();
        EngineShed y = Bounds.fullYard();
        for (int what = 0; what <= 6; what++) {
            due("count(" + what + ")", x.count(what), some[what]);
            due("count(" + what + ") of a full one", y.count(what), all[what]);
        }
        for (int what : new int[] {-1, 7, MIN, MAX}) refused("count(" + what + ")", z -> z.count(what));
        EngineShed z = new EngineShed();
        for (int i = 0; i < 100; i++) z.feed(0, 0, 0, 0, 0);
        due("a full tape", z.count(6), 2000);
        z.feed(0, 0, 0, 0, 0);
        due("a full tape yet", z.count(6), 2000);
    }
}
