import java.util.Arrays;

/** Boundary cases of the document's part III: engines day by day, and why runs hold (20 to 23). */
public final class BoundsDaysTest {
    private static final int NONE = Bounds.NONE;
    private static final int MIN = Bounds.MIN;
    private static final int MAX = Bounds.MAX;

    private static final int WASH = 0;
    private static final int LOOK = 1;
    private static final int MENDED = 2;
    private static final int HOME = 3;

    public static void main(String[] args) {
        stateOutside();
        atFirst();
        known();
        dayByDay();
        washes();
        washedDay();
        looks();
        shopsDays();
        shopsNothing();
        shopsOut();
        betweenShops();
        fails();
        failsHalves();
        failsOnce();
        failsStands();
        mended();
        lent();
        home();
        voidOutside();
        voidByEngine();
        voidByPlace();
        voidByHours();
        voidByBar();
        voidByManHours();
        voidByTenHours();
        voidByLine();
        voidByTurn();
        leastReason();
        heldOutside();
        miles();
        wear();
        firstHolding();
        ints();
        divisionByZero();
        variables();
        aheadOf();
        barOutside();
        barNumbers();
        Bounds.finish();
    }

    private static void holds(int promise, String words) {
        Bounds.holds(promise, words);
    }

    private static void due(String call, int got, int want) {
        Bounds.due(call, got, want);
    }

    private static int turn(EngineShed x, int from, int to, int a, int b, int miles) {
        return x.turn(from, to, a, b, miles, 0, 0, false);
    }

    /** What 0 .. 6 of state(..) are. */
    private static void state(EngineShed x, String when, int engine, int day, int n, int... all) {
        for (int what = 0; what < all.length; what++) {
            due(when + ": state(" + engine + ", " + day + ", " + n + ", " + what + ")", x.state(engine, day, n, what), all[what]);
        }
    }

    /** Why the latest fact, a run, is void as known by all. */
    private static int reason(EngineShed x) {
        return x.isVoid(x.count(4) - 1, x.count(4));
    }

    /** So many sheds with an engine and a man each; turn 0: 0 to 1, 6 .. 10, 100 miles, 1: 1 to 0, 10 .. 14, 61 miles. */
    private static EngineShed lineOf(int sheds) {
        EngineShed x = Bounds.sheds(sheds);
        turn(x, 0, 1, 6, 10, 100);
        turn(x, 1, 0, 10, 14, 61);
        return x;
    }

    // ---- what state() is asked

    private static void stateOutside() {
        holds(20, "NONE: no such ones.");
        int[][] yes = {{0, 0, 12, 1}, {2, 119, 12, 1}, {0, 119, 0, 1}, {2, 0, 1, 1}, {1, 0, 0, 0}, {1, 0, 0, 6}};
        for (int[] a : yes) due("state(" + Arrays.toString(a) + ")", Bounds.yard().state(a[0], a[1], a[2], a[3]), 0);
        due("the last what", Bounds.yard().state(1, 119, 12, 6), 2);
        int[][] no = {{-1, 0, 0, 1}, {3, 0, 0, 1}, {MIN, 0, 0, 1}, {MAX, 0, 0, 1}, {0, -1, 0, 1}, {0, 120, 0, 1}, {0, MIN, 0, 1},
            {0, MAX, 0, 1}, {0, 0, -1, 1}, {0, 0, 13, 1}, {0, 0, MIN, 1}, {0, 0, MAX, 1}, {0, 0, 0, -1}, {0, 0, 0, 7},
            {0, 0, 0, MIN}, {0, 0, 0, MAX}};
        for (int[] a : no) {
            String call = "state(" + Arrays.toString(a) + ")";
            Bounds.refused(Bounds::yard, call, NONE, x -> x.state(a[0], a[1], a[2], a[3]));
        }
        EngineShed x = Bounds.fullYard();
        due("the 9th engine by all 180", x.state(8, 119, 180, 1), 0);
        due("a 10th", x.state(9, 119, 180, 1), NONE);
        due("by 181", x.state(8, 119, 181, 1), NONE);
    }

    private static void atFirst() {
        holds(20, "AN ENGINE is in its HOME's SHED from DAY 0 on, sound, MILES, WEAR 0, washed and looked at on DAY 0.");
        EngineShed x = Bounds.sheds(5);
        for (int e = 0; e < 5; e++) {
            state(x, "the first day", e, 0, 0, e, 0, 0, 0, 0, 0, e);
            state(x, "the second day", e, 1, 0, e, 0, 0, 0, 1, 1, e);
            state(x, "the last day", e, 119, 0, e, 0, 0, 0, 119, 119, e);
        }
    }

    private static void known() {
        holds(20, "as KNOWN by n the first n of them are");
        EngineShed x = lineOf(3);
        for (int i = 0; i < 6; i++) x.run(0, i % 2, 0, i / 2);
        int[] at = {0, 1, 0, 1, 0, 1, 0};
        int[] miles = {0, 100, 161, 261, 322, 422, 483};
        for (int n = 0; n <= 6; n++) {
            due("where it stands, by " + n, x.state(0, 119, n, 0), at[n]);
            due("its miles, by " + n, x.state(0, 119, n, 2), miles[n]);
        }
        for (int n = 6; n >= 0; n--) due("its miles, by " + n + " again", x.state(0, 119, n, 2), miles[n]);
        due("by 7", x.state(0, 119, 7, 2), NONE);
        // A fact behind n is not known, whatever its day.
        x.fact(WASH, 0, 0);
        due("the wash of day 0 is not known by 6", x.state(0, 119, 6, 2), 483);
        due("nor does it wash by 7: it has run", x.state(0, 119, 7, 2), 483);
    }

    private static void dayByDay() {
        holds(20, "they hold DAY by DAY, those of one DAY by numbers");
        EngineShed x = Bounds.sheds(3);
        x.lent(0, 1, 5);
        x.lent(0, 2, 4);
        int[] days = {0, 3, 4, 5, 6, 119};
        int[] at = {0, 0, 2, 1, 1, 1};
        for (int i = 0; i < days.length; i++) due("the later number is of the sooner day, day " + days[i], x.state(0, days[i], 2, 0), at[i]);
        EngineShed y = Bounds.sheds(3);
        y.lent(0, 1, 5);
        y.lent(0, 2, 5);
        due("one day ahead", y.state(0, 4, 2, 0), 0);
        due("of one day the greater number is last", y.state(0, 5, 2, 0), 2);
        due("as known by one", y.state(0, 5, 1, 0), 1);
        EngineShed z = lineOf(2);
        z.run(0, 0, 0, 119);
        z.run(0, 1, 0, 0);
        z.run(0, 1, 1, 119);
        z.run(0, 0, 1, 0);
        due("day 119, the first", z.isVoid(0, 4), 2);
        due("day 0, the first", z.isVoid(1, 4), 2);
        due("day 119, the second", z.isVoid(2, 4), 0);
        due("day 0, the second", z.isVoid(3, 4), 0);
        due("as known by 3: day 119, the first", z.isVoid(0, 3), 0);
    }

    // ---- wash, look

    /** Engine 0 has run 161 miles on day 0, and is where it was. */
    private static EngineShed worked() {
        EngineShed x = lineOf(3);
        Bounds.read(x, "wear w far / 10;");
        x.run(0, 0, 0, 0);
        x.run(0, 1, 0, 0);
        return x;
    }

    private static void washes() {
        holds(20, "WASH: if it is sound, in a SHED, and has not run on this DAY: MILES 0, washed on this DAY");
        EngineShed x = worked();
        x.fact(WASH, 0, 1);
        state(x, "the day ahead of a wash", 0, 0, 3, 0, 0, 161, 16, 0, 0, 0);
        state(x, "on its day: miles alone are 0", 0, 1, 3, 0, 0, 0, 16, 0, 1, 0);
        state(x, "not known", 0, 1, 2, 0, 0, 161, 16, 1, 1, 0);
        EngineShed y = worked();
        y.fact(WASH, 0, 0);
        state(y, "it has run on this day", 0, 0, 3, 0, 0, 161, 16, 0, 0, 0);
        EngineShed z = worked();
        z.run(0, 1, 0, 1);
        due("a void run", reason(z), 2);
        z.fact(WASH, 0, 1);
        state(z, "a void run is none", 0, 1, 4, 0, 0, 0, 16, 0, 1, 0);
        EngineShed w = worked();
        w.fails(0, 1, 0);
        w.fact(WASH, 0, 1);
        w.fact(WASH, 0, 2);
        state(w, "failed on this day", 0, 1, 4, 0, 2, 161, 16, 1, 1, 0);
        state(w, "failed the day ahead", 0, 2, 5, 0, 2, 161, 16, 2, 2, 0);
        w.fact(MENDED, 0, 2);
        state(w, "mended too late", 0, 2, 6, 0, 0, 161, 16, 2, 2, 0);
        w.fact(WASH, 0, 2);
        state(w, "mended", 0, 2, 7, 0, 0, 0, 16, 0, 2, 0);
        EngineShed v = worked();
        v.shops(0, 2, 4);
        v.fact(WASH, 0, 3);
        state(v, "in the shops", 0, 3, 4, NONE, 1, 161, 16, 3, 3, 0);
        v.fact(WASH, 0, 1);
        state(v, "the day ahead of the shops", 0, 1, 5, 0, 0, 0, 16, 0, 1, 0);
        v.fact(WASH, 0, 119);
        state(v, "on the last day", 0, 119, 6, 0, 0, 0, 0, 0, 115, 0);
    }

    private static void washedDay() {
        holds(21, "it does not run on this DAY any more");
        EngineShed x = lineOf(2);
        x.fact(WASH, 0, 4);
        for (int day = 3; day <= 5; day++) {
            x.run(0, 0, 0, day);
            due("a run on day " + day + ", washed on day 4", reason(x), day == 4 ? 1 : day == 3 ? 0 : 2);
        }
        EngineShed y = lineOf(2);
        y.fact(WASH, 0, 4);
        y.run(0, 0, 0, 5);
        due("the day behind it", reason(y), 0);
        EngineShed z = lineOf(2);
        z.run(0, 0, 0, 4);
        z.fact(WASH, 0, 4);
        z.run(0, 1, 0, 4);
        due("the run ahead of it", z.isVoid(0, 3), 0);
        due("a wash that did nothing keeps none", z.isVoid(2, 3), 0);
        EngineShed w = lineOf(2);
        w.fact(WASH, 0, 4);
        w.fails(0, 4, 0);
        w.fact(MENDED, 0, 4);
        w.run(0, 0, 0, 4);
        due("mended does not undo it", reason(w), 1);
        w.run(1, 1, 1, 4);
        due("another engine", reason(w), 0);
        EngineShed v = lineOf(2);
        v.shops(0, 1, 4);
        v.run(0, 0, 0, 4);
        due("washed by the shops: it runs", reason(v), 0);
        v.fact(WASH, 0, 4);
        due("has run: no wash", v.state(0, 4, 3, 2), 100);
        EngineShed u = lineOf(2);
        u.shops(0, 1, 4);
        u.fact(WASH, 0, 4);
        u.run(0, 0, 0, 4);
        due("washed by a wash on the day on which it leaves the shops", reason(u), 1);
    }

    private static void looks() {
        holds(20, "LOOK: if it is sound: looked at on this DAY");
        EngineShed x = worked();
        x.fact(LOOK, 0, 0);
        x.fact(LOOK, 0, 5);
        state(x, "the day ahead", 0, 4, 4, 0, 0, 161, 16, 4, 4, 0);
        state(x, "its day", 0, 5, 4, 0, 0, 161, 16, 5, 0, 0);
        state(x, "the day behind", 0, 6, 4, 0, 0, 161, 16, 6, 1, 0);
        x.run(0, 0, 0, 8);
        x.fact(LOOK, 0, 8);
        due("one that has run is looked at", x.state(0, 8, 6, 5), 0);
        x.fails(0, 10, 0);
        x.fact(LOOK, 0, 10);
        x.fact(LOOK, 0, 11);
        due("failed on this day", x.state(0, 10, 9, 5), 2);
        due("failed the day ahead", x.state(0, 11, 9, 5), 3);
        x.fact(MENDED, 0, 11);
        x.fact(LOOK, 0, 11);
        due("mended", x.state(0, 11, 11, 5), 0);
        due("another engine", x.state(1, 11, 11, 5), 11);
        x.fact(WASH, 0, 13);
        x.fact(LOOK, 0, 13);
        due("one that was washed is looked at", x.state(0, 13, 13, 5), 0);
        x.fact(LOOK, 0, 119);
        due("on the last day", x.state(0, 119, 14, 5), 0);
    }

    // ---- shops

    private static void shopsDays() {
        holds(20, "it is in the SHOPS from this DAY on up to that DAY (not with it)");
        int[][] spans = {{0, 1}, {0, 119}, {118, 119}, {5, 6}, {5, 8}, {1, 119}};
        for (int[] s : spans) {
            EngineShed x = Bounds.sheds(2);
            x.shops(1, s[0], s[1]);
            for (int day = 0; day < 120; day++) {
                boolean in = s[0] <= day && day < s[1];
                String when = "shops " + s[0] + " to " + s[1] + ", day " + day;
                due(when, x.state(1, day, 1, 1), in ? 1 : 0);
                due(when + ", where", x.state(1, day, 1, 0), in ? NONE : 1);
                due(when + ", washed", x.state(1, day, 1, 4), day < s[1] ? day : day - s[1]);
                due(when + ", looked at", x.state(1, day, 1, 5), day < s[1] ? day : day - s[1]);
            }
        }
    }

    private static void shopsNothing() {
        holds(20, "a DAY not behind this one: nothing");
        int[][] spans = {{5, 5}, {5, 4}, {5, 0}, {119, 119}, {119, 118}, {119, 0}, {0, 0}, {1, 0}};
        for (int[] s : spans) {
            EngineShed x = worked();
            EngineShed y = worked();
            due("shops " + Arrays.toString(s), y.shops(0, s[0], s[1]), 2);
            for (int day : new int[] {0, s[1], s[0], 119}) {
                for (int what = 0; what < 7; what++) {
                    due("shops " + Arrays.toString(s) + ", day " + day + ", what " + what, y.state(0, day, 3, what), x.state(0, day, 2, what));
                }
            }
        }
        EngineShed x = lineOf(2);
        x.shops(0, 5, 5);
        x.run(0, 0, 0, 5);
        due("it runs on that day", reason(x), 0);
        holds(20, "if it is sound and has not run on this DAY: it is in the SHOPS");
        EngineShed y = worked();
        y.shops(0, 0, 9);
        due("it has run", y.state(0, 0, 3, 1), 0);
        due("the next day", y.state(0, 1, 3, 1), 0);
        y.shops(0, 1, 9);
        due("it has not run on day 1", y.state(0, 1, 4, 1), 1);
        EngineShed z = worked();
        z.run(0, 1, 0, 1);
        z.shops(0, 1, 3);
        due("a void run is none", z.state(0, 1, 4, 1), 1);
        EngineShed w = worked();
        w.fails(0, 1, 0);
        w.shops(0, 1, 3);
        w.shops(0, 2, 4);
        due("failed on this day", w.state(0, 1, 5, 1), 2);
        due("failed the day ahead", w.state(0, 2, 5, 1), 2);
        w.fact(MENDED, 0, 2);
        w.shops(0, 2, 4);
        due("mended", w.state(0, 2, 7, 1), 1);
        EngineShed v = worked();
        v.fact(WASH, 0, 1);
        v.shops(0, 1, 3);
        due("washed on this day: it goes to the shops", v.state(0, 1, 4, 1), 1);
    }

    private static void shopsOut() {
        holds(20, "then in its HOME's SHED (its KEEPER stays), MILES, WEAR 0, washed and looked at on that DAY");
        EngineShed x = worked();
        x.lent(0, 2, 1);
        x.shops(0, 2, 5);
        state(x, "the day ahead", 0, 1, 4, 2, 0, 161, 16, 1, 1, 2);
        state(x, "its first day", 0, 2, 4, NONE, 1, 161, 16, 2, 2, 2);
        state(x, "its last day", 0, 4, 4, NONE, 1, 161, 16, 4, 4, 2);
        state(x, "that day", 0, 5, 4, 0, 0, 0, 0, 0, 0, 2);
        state(x, "the day behind", 0, 6, 4, 0, 0, 0, 0, 1, 1, 2);
        state(x, "the last day", 0, 119, 4, 0, 0, 0, 0, 114, 114, 2);
        x.lent(0, 2, 6);
        due("lent to its keeper: it stays at home", x.state(0, 6, 5, 0), 0);
        x.fact(HOME, 0, 7);
        state(x, "home", 0, 7, 6, 0, 0, 0, 0, 2, 2, 0);
        EngineShed y = worked();
        y.run(0, 0, 0, 1);
        y.shops(0, 2, 3);
        due("it went to the shops from another shed", y.state(0, 1, 4, 0), 1);
        due("and is at home", y.state(0, 3, 4, 0), 0);
        y.shops(0, 3, 4);
        state(y, "shops again on the day on which it leaves them", 0, 3, 5, NONE, 1, 0, 0, 0, 0, 0);
        state(y, "that day", 0, 4, 5, 0, 0, 0, 0, 0, 0, 0);
    }

    private static void betweenShops() {
        holds(20, "FACTS of it between do nothing");
        for (int day : new int[] {3, 4, 6}) {
            EngineShed x = Bounds.sheds(3);
            x.shops(0, 3, 7);
            EngineShed y = Bounds.sheds(3);
            turn(y, 0, 0, 1, 2, 9);
            y.shops(0, 3, 7);
            for (int kind = 0; kind < 4; kind++) y.fact(kind, 0, day);
            y.shops(0, day, 100);
            y.fails(0, day, 3);
            y.lent(0, 2, day);
            y.run(0, 0, 0, day);
            due("a run between, day " + day, reason(y), 1);
            for (int d : new int[] {2, 3, 6, 7, 8, 119}) {
                for (int what = 0; what < 7; what++) {
                    due("facts of day " + day + " between, day " + d + ", what " + what, y.state(0, d, y.count(4), what), x.state(0, d, 1, what));
                }
            }
            due("help for it", y.help(6, y.count(4)), NONE);
            due("no fails did something", y.causes(y.count(4)), 0);
        }
        // On the first day ahead of it, and on the day on which it leaves, they do.
        EngineShed x = Bounds.sheds(3);
        x.lent(0, 2, 3);
        x.shops(0, 3, 7);
        due("ahead of it", x.state(0, 3, 2, 6), 2);
        x.lent(0, 1, 7);
        due("behind it", x.state(0, 7, 3, 6), 1);
        due("where", x.state(0, 7, 3, 0), 1);
        x.shops(0, 8, 10);
        x.shops(0, 9, 100);
        due("until the first told day", x.state(0, 10, 5, 1), 0);
        x.shops(0, 10, 12);
        x.fails(0, 12, 0);
        due("failed on the day on which it leaves", x.state(0, 12, 7, 1), 2);
    }

    // ---- fails, mended

    private static void fails() {
        holds(20, "FAILS at an hour: if it is sound and not in the SHOPS: it is FAILED from now on");
        EngineShed x = lineOf(3);
        x.fails(0, 5, 0);
        for (int day : new int[] {0, 4, 5, 6, 119}) due("day " + day, x.state(0, day, 1, 1), day < 5 ? 0 : 2);
        due("where it stands", x.state(0, 5, 1, 0), 0);
        due("not known", x.state(0, 5, 0, 1), 0);
        due("another one", x.state(1, 5, 1, 1), 0);
        x.fails(0, 5, 23);
        x.fails(0, 6, 0);
        due("a fails of one that is failed does nothing", x.help(1, 3), NONE);
        due("nor the next day", x.help(2, 3), NONE);
        due("the first did something", x.help(0, 3), -2);
        EngineShed y = lineOf(3);
        y.shops(0, 5, 7);
        y.fails(0, 6, 0);
        y.fails(0, 7, 0);
        due("in the shops", y.state(0, 6, 3, 1), 1);
        due("it did nothing", y.help(1, 3), NONE);
        due("out of the shops", y.state(0, 7, 3, 1), 2);
        due("it did something", y.help(2, 3), -2);
        EngineShed z = lineOf(3);
        z.fails(0, 119, 23);
        due("on the last day", z.state(0, 119, 1, 1), 2);
        due("the day ahead", z.state(0, 118, 1, 1), 0);
    }

    private static void failsHalves() {
        holds(22, "of its last RUN of this DAY that HOLDS half the MILES (rounded down; once) count");
        int[] miles = {0, 1, 2, 3, 99, 100, 399, 400};
        int[] half = {0, 0, 1, 1, 49, 50, 199, 200};
        for (int i = 0; i < miles.length; i++) {
            EngineShed x = Bounds.sheds(2);
            turn(x, 0, 1, 1, 2, miles[i]);
            x.run(0, 0, 0, 0);
            x.fails(0, 0, 1);
            due("miles of " + miles[i], x.held(0, 2, 0), half[i]);
            due("as known by 1", x.held(0, 1, 0), miles[i]);
            due("the engine's", x.state(0, 0, 2, 2), half[i]);
        }
        int[] told = {0, 1, 7, 9998, 9999};
        for (int v : told) {
            EngineShed x = lineOf(2);
            x.run(0, 0, 0, 0);
            x.fails(0, 0, 1);
            x.mile(0, v);
            due("miles told as " + v, x.held(0, 3, 0), v / 2);
            due("the engine's", x.state(0, 0, 3, 2), v / 2);
        }
        EngineShed y = lineOf(2);
        y.run(0, 0, 0, 0);
        y.run(0, 1, 0, 0);
        y.run(0, 1, 1, 0);
        y.fails(0, 0, 13);
        due("the last one that holds: half", y.held(1, 4, 0), 30);
        due("the one ahead of it: whole", y.held(0, 4, 0), 100);
        due("the engine's", y.state(0, 0, 4, 2), 130);
        EngineShed z = lineOf(2);
        z.run(0, 0, 0, 0);
        z.fails(0, 1, 0);
        due("a run of the day ahead: whole", z.held(0, 2, 0), 100);
        due("the engine's", z.state(0, 1, 2, 2), 100);
        due("it stands where it came to", z.state(0, 1, 2, 0), 1);
        EngineShed w = lineOf(2);
        w.fails(0, 0, 23);
        w.run(0, 0, 0, 0);
        due("a run told behind it", reason(w), 1);
        due("no miles", w.state(0, 0, 2, 2), 0);
        EngineShed v = lineOf(2);
        v.run(1, 1, 1, 0);
        v.run(0, 0, 0, 0);
        v.fails(1, 0, 20);
        due("another engine's run: whole", v.held(1, 3, 0), 100);
        due("its own: half", v.held(0, 3, 0), 30);
        EngineShed u = Bounds.sheds(2);
        Bounds.read(u, "wear w far;");
        turn(u, 0, 1, 1, 2, 9);
        u.run(0, 0, 0, 0);
        u.fails(0, 0, 1);
        due("wear is not halved", u.state(0, 0, 2, 3), 9);
        due("nor the run's", u.held(0, 2, 1), 9);
    }

    private static void failsOnce() {
        holds(22, "(rounded down; once)");
        EngineShed x = lineOf(2);
        x.run(0, 0, 0, 0);
        for (int i = 0; i < 3; i++) {
            x.fails(0, 0, 8);
            x.fact(MENDED, 0, 0);
        }
        for (int n = 2; n <= 7; n++) {
            due("half once, by " + n, x.held(0, n, 0), 50);
            due("the engine's, by " + n, x.state(0, 0, n, 2), 50);
        }
        EngineShed y = lineOf(2);
        turn(y, 0, 0, 10, 11, 9);
        y.run(0, 0, 0, 0);
        y.fails(0, 0, 8);
        y.fact(MENDED, 0, 0);
        y.run(0, 2, 0, 0);
        y.fails(0, 0, 11);
        due("the first is halved", y.held(0, 5, 0), 50);
        due("so is the second", y.held(3, 5, 0), 4);
        due("the engine's", y.state(0, 0, 5, 2), 54);
    }

    private static void failsStands() {
        holds(20, "it stands at the SHED from which that began");
        EngineShed x = lineOf(3);
        x.run(0, 0, 0, 0);
        due("it came to 1", x.state(0, 0, 1, 0), 1);
        x.fails(0, 0, 7);
        due("it is at 0", x.state(0, 0, 2, 0), 0);
        due("the next day, too", x.state(0, 1, 2, 0), 0);
        EngineShed y = lineOf(3);
        y.run(0, 0, 0, 0);
        y.run(0, 1, 0, 0);
        y.fails(0, 0, 7);
        due("of two the last: it is at 1", y.state(0, 0, 3, 0), 1);
        EngineShed z = lineOf(3);
        z.run(0, 0, 0, 0);
        z.lent(0, 2, 1);
        z.fails(0, 1, 0);
        due("no run of this day: where it stood", z.state(0, 1, 3, 0), 2);
        z.fact(MENDED, 0, 2);
        z.lent(0, 0, 2);
        z.run(0, 0, 0, 2);
        z.lent(0, 2, 2);
        z.fails(0, 2, 0);
        due("lent away behind its run: from where the run began", z.state(0, 2, 8, 0), 0);
        due("its keeper stays", z.state(0, 2, 8, 6), 2);
    }

    private static void mended() {
        holds(20, "MENDED: if it is FAILED it is sound again");
        EngineShed x = lineOf(3);
        x.fact(MENDED, 0, 4);
        x.fails(0, 5, 0);
        x.fact(MENDED, 0, 7);
        int[] days = {4, 5, 6, 7, 8, 119};
        int[] how = {0, 2, 2, 0, 0, 0};
        for (int i = 0; i < days.length; i++) due("day " + days[i], x.state(0, days[i], 3, 1), how[i]);
        x.fact(MENDED, 0, 5);
        due("on its day", x.state(0, 5, 4, 1), 0);
        x.fact(MENDED, 1, 5);
        state(x, "of one that is sound: nothing", 1, 5, 5, 1, 0, 0, 0, 5, 5, 1);
        EngineShed y = lineOf(3);
        y.fact(MENDED, 0, 5);
        y.fails(0, 5, 0);
        due("ahead of the fails", y.state(0, 5, 2, 1), 2);
        EngineShed z = lineOf(3);
        z.shops(0, 5, 9);
        z.fact(MENDED, 0, 6);
        due("in the shops: nothing", z.state(0, 6, 2, 1), 1);
        EngineShed w = lineOf(3);
        w.fails(0, 5, 0);
        w.fact(MENDED, 0, 5);
        w.run(0, 0, 0, 5);
        due("it runs on that day", reason(w), 0);
    }

    // ---- lent, home

    private static void lent() {
        holds(20, "LENT to a SHED: if it is sound and not in the SHOPS, and that is not its KEEPER: that is its KEEPER, and it stands there.");
        EngineShed x = lineOf(3);
        x.lent(0, 2, 5);
        state(x, "the day ahead", 0, 4, 1, 0, 0, 0, 0, 4, 4, 0);
        state(x, "its day", 0, 5, 1, 2, 0, 0, 0, 5, 5, 2);
        state(x, "the last day", 0, 119, 1, 2, 0, 0, 0, 119, 119, 2);
        EngineShed y = lineOf(3);
        y.run(0, 0, 0, 5);
        y.lent(0, 0, 5);
        due("its keeper: it does not move", y.state(0, 5, 2, 0), 1);
        due("its keeper", y.state(0, 5, 2, 6), 0);
        y.lent(0, 1, 5);
        due("not its keeper, though it stands there", y.state(0, 5, 3, 6), 1);
        due("where", y.state(0, 5, 3, 0), 1);
        y.lent(0, 0, 5);
        due("back to its home", y.state(0, 5, 4, 6), 0);
        due("where", y.state(0, 5, 4, 0), 0);
        EngineShed z = lineOf(3);
        z.fails(0, 5, 0);
        z.lent(0, 2, 5);
        z.lent(0, 1, 6);
        state(z, "failed on this day", 0, 5, 3, 0, 2, 0, 0, 5, 5, 0);
        state(z, "failed the day ahead", 0, 6, 3, 0, 2, 0, 0, 6, 6, 0);
        z.fact(MENDED, 0, 6);
        z.lent(0, 1, 6);
        state(z, "mended", 0, 6, 5, 1, 0, 0, 0, 6, 6, 1);
        EngineShed w = lineOf(3);
        w.shops(0, 5, 7);
        w.lent(0, 2, 5);
        w.lent(0, 2, 6);
        due("in the shops", w.state(0, 6, 3, 6), 0);
        w.lent(0, 2, 7);
        due("out of the shops", w.state(0, 7, 4, 6), 2);
    }

    private static void home() {
        holds(20, "HOME: as LENT to its HOME.");
        EngineShed x = lineOf(3);
        x.run(0, 0, 0, 0);
        x.fact(HOME, 0, 0);
        due("its home is its keeper: it does not move", x.state(0, 0, 2, 0), 1);
        x.lent(0, 2, 1);
        x.fact(HOME, 0, 2);
        state(x, "lent", 0, 1, 4, 2, 0, 100, 0, 1, 1, 2);
        state(x, "home", 0, 2, 4, 0, 0, 100, 0, 2, 2, 0);
        x.lent(0, 2, 3);
        x.fails(0, 3, 0);
        x.fact(HOME, 0, 3);
        due("failed", x.state(0, 3, 7, 6), 2);
        x.fact(MENDED, 0, 4);
        x.shops(0, 4, 6);
        x.fact(HOME, 0, 5);
        due("in the shops", x.state(0, 5, 10, 6), 2);
        due("out of them at home, its keeper stays", x.state(0, 6, 10, 6), 2);
        x.fact(HOME, 0, 6);
        due("home on that day", x.state(0, 6, 11, 6), 0);
        x.fact(HOME, 1, 119);
        due("of one that is at home", x.state(1, 119, 12, 0), 1);
    }

    // ---- why a run is void

    private static void voidOutside() {
        holds(21, "NONE: no such FACT among the first n, another one.");
        EngineShed x = Bounds.yard();
        int[] runs = {0, 1, 3, 4, 10};
        int[] why = {0, 0, 0, 4, 0};
        for (int i = 0; i < runs.length; i++) {
            due("isVoid(" + runs[i] + ", 12)", x.isVoid(runs[i], 12), why[i]);
            due("the first n that knows it", x.isVoid(runs[i], runs[i] + 1), why[i]);
            due("one n ahead", x.isVoid(runs[i], runs[i]), NONE);
        }
        int[][] no = {{-1, 12}, {12, 12}, {MIN, 12}, {MAX, 12}, {0, 0}, {0, -1}, {0, 13}, {0, MIN}, {0, MAX}, {4, 4}, {10, 10},
            {-1, -1}, {12, 13}, {13, 13}, {2, 12}, {5, 12}, {6, 12}, {7, 12}, {8, 12}, {9, 12}, {11, 12}};
        for (int[] a : no) Bounds.refused(Bounds::yard, "isVoid" + Arrays.toString(a), NONE, y -> y.isVoid(a[0], a[1]));
        EngineShed full = Bounds.fullYard();
        due("by all 180", full.isVoid(0, 180), 0);
        due("by 181", full.isVoid(0, 181), NONE);
    }

    private static void voidByEngine() {
        holds(21, "1 it is in the SHOPS, FAILED, or was washed on this DAY (by a WASH)");
        for (int day = 2; day <= 7; day++) {
            EngineShed x = lineOf(2);
            x.shops(0, 3, 6);
            x.run(0, 0, 0, day);
            due("in the shops 3 to 6, day " + day, reason(x), day >= 3 && day < 6 ? 1 : 0);
            EngineShed y = lineOf(2);
            y.fails(0, 3, 23);
            y.fact(MENDED, 0, 6);
            y.run(0, 0, 0, day);
            due("failed on 3, mended on 6, day " + day, reason(y), day >= 3 && day < 6 ? 1 : 0);
            EngineShed z = lineOf(2);
            z.run(0, 0, 0, day);
            z.fails(0, day, 0);
            z.shops(0, day, 9);
            z.fact(WASH, 0, day);
            due("told ahead of them", z.isVoid(0, 4), 0);
        }
    }

    private static void voidByPlace() {
        holds(21, "2 it stands at another SHED than the TURN's from");
        EngineShed x = Bounds.sheds(5);
        for (int from = 0; from < 5; from++) turn(x, from, from, 2, 3, 1);
        for (int e = 0; e < 5; e++) {
            for (int from = 0; from < 5; from++) {
                x.run(e, from, e, 5 * e + from);
                due("engine " + e + " from " + from, reason(x), e == from ? 0 : 2);
            }
        }
        holds(21, "Else it HOLDS: it stands at the TURN's to");
        EngineShed y = lineOf(3);
        y.run(0, 1, 0, 0);
        due("not there yet", reason(y), 2);
        y.run(0, 0, 0, 0);
        y.run(0, 1, 0, 0);
        due("it stands at its turn's to", reason(y), 0);
        y.run(0, 1, 0, 1);
        due("no more", reason(y), 2);
        due("a void one does not move it", y.state(0, 1, 4, 0), 0);
    }

    private static void voidByHours() {
        holds(21, "3 it has run on this DAY up to an hour behind the TURN's a");
        int[][] hours = {{10, 11, 0}, {9, 10, 3}, {9, 24, 3}, {11, 12, 0}, {23, 24, 0}, {0, 1, 3}, {5, 6, 3}, {6, 10, 3}};
        for (int[] h : hours) {
            EngineShed x = Bounds.sheds(2);
            turn(x, 0, 0, 6, 10, 5);
            turn(x, 0, 0, h[0], h[1], 5);
            x.run(0, 0, 0, 7);
            x.run(0, 1, 1, 7);
            due("6 .. 10, then " + h[0] + " .. " + h[1], reason(x), h[2]);
            EngineShed y = Bounds.sheds(2);
            turn(y, 0, 0, 6, 10, 5);
            turn(y, 0, 0, h[0], h[1], 5);
            y.run(0, 0, 0, 6);
            y.run(0, 1, 1, 7);
            due("the day behind, " + h[0] + " .. " + h[1], reason(y), h[1] - h[0] > 10 ? 5 : 0);
        }
        EngineShed z = Bounds.sheds(2);
        turn(z, 0, 0, 0, 1, 5);
        turn(z, 0, 0, 0, 2, 5);
        turn(z, 0, 0, 1, 2, 5);
        z.run(0, 0, 0, 0);
        z.run(0, 1, 1, 0);
        due("both from 0 on", reason(z), 3);
        z.run(0, 2, 1, 0);
        due("a void one does not count", reason(z), 0);
        EngineShed w = Bounds.sheds(2);
        turn(w, 1, 1, 6, 10, 5);
        turn(w, 0, 0, 6, 7, 5);
        w.run(0, 0, 0, 0);
        w.run(0, 1, 1, 0);
        due("a void one ahead", reason(w), 0);
    }

    private static void voidByBar() {
        holds(21, "4 a bar RULE in force holds");
        for (int day = 3; day <= 8; day++) {
            EngineShed x = lineOf(2);
            Bounds.read(x, "from 4; bar a if far == 100;");
            Bounds.read(x, "from 7; strike a;");
            x.run(0, 0, 0, day);
            due("in force on 4 .. 6, day " + day, reason(x), day >= 4 && day < 7 ? 4 : 0);
        }
        int[][] signs = {{99, 0, 0, 0, 1, 1}, {100, 0, 1, 1, 0, 0}, {101, 0, 0, 1, 0, 1}};
        String[] conds = {"far < miles", "far == %", "far <= %", "% < far", "% != far"};
        for (int[] s : signs) {
            for (int i = 0; i < conds.length; i++) {
                EngineShed x = lineOf(2);
                Bounds.read(x, "bar a if " + conds[i].replace("%", "" + s[0]) + ";");
                x.run(0, 0, 0, 0);
                int want = switch (i) {
                    case 1 -> s[0] == 100 ? 4 : 0;
                    case 2 -> 100 <= s[0] ? 4 : 0;
                    case 3 -> s[0] < 100 ? 4 : 0;
                    case 4 -> s[0] != 100 ? 4 : 0;
                    default -> 0;
                };
                due(conds[i] + " of " + s[0], reason(x), want);
            }
        }
    }

    private static void voidByManHours() {
        holds(21, "5 the MAN has run on this DAY at hours of these");
        int[][] hours = {{10, 11, 0}, {9, 10, 5}, {9, 11, 5}, {5, 6, 0}, {5, 7, 5}, {6, 7, 5}, {7, 9, 5}, {6, 10, 5}, {0, 6, 0},
            {0, 7, 5}, {10, 16, 0}, {23, 24, 0}, {0, 1, 0}};
        for (int[] h : hours) {
            EngineShed x = Bounds.sheds(2);
            turn(x, 0, 0, 6, 10, 5);
            turn(x, 1, 1, h[0], h[1], 5);
            x.run(0, 0, 0, 7);
            x.run(1, 1, 0, 7);
            due("6 .. 10, then " + h[0] + " .. " + h[1], reason(x), h[2]);
            x.run(1, 1, 1, 7);
            due("another man", reason(x), h[2] == 5 ? 0 : 3);
            x.run(1, 1, 0, 8);
            due("another day", reason(x), 0);
        }
        EngineShed y = Bounds.sheds(2);
        turn(y, 1, 1, 6, 10, 5);
        turn(y, 0, 0, 6, 10, 5);
        y.run(0, 0, 0, 0);
        y.run(0, 1, 0, 0);
        due("a void one does not count", reason(y), 0);
    }

    private static void voidByTenHours() {
        holds(21, "or would come to more than 10 hours");
        int[][] more = {{10, 15, 0}, {10, 16, 0}, {10, 17, 5}, {10, 24, 5}, {18, 24, 0}, {17, 24, 5}, {0, 6, 0}};
        for (int[] h : more) {
            EngineShed x = Bounds.sheds(2);
            turn(x, 0, 0, 6, 10, 5);
            turn(x, 1, 1, h[0], h[1], 5);
            x.run(0, 0, 0, 7);
            x.run(1, 1, 0, 7);
            due("4 and " + (h[1] - h[0]), reason(x), h[2]);
        }
        for (int length = 9; length <= 12; length++) {
            for (int a : new int[] {0, 24 - length}) {
                EngineShed x = Bounds.sheds(2);
                turn(x, 0, 0, a, a + length, 5);
                x.run(0, 0, 0, 0);
                due("alone, " + length, reason(x), length <= 10 ? 0 : 5);
            }
        }
        EngineShed x = Bounds.sheds(1);
        for (int i = 0; i < 11; i++) turn(x, 0, 0, 2 * i, 2 * i + 1, 5);
        for (int i = 0; i < 11; i++) {
            x.run(0, i, 0, 0);
            due("hour " + (i + 1), reason(x), i < 10 ? 0 : 5);
        }
        x.run(0, 10, 0, 1);
        due("the next day they begin anew", reason(x), 0);
    }

    private static void voidByLine() {
        holds(21, "6 the MAN does not know the LINE");
        for (int line = 0; line < 8; line++) {
            EngineShed x = Bounds.sheds(1);
            x.man(1 << line);
            x.man(255 ^ 1 << line);
            x.turn(0, 0, 0, 1, 0, 0, line, line % 2 == 1);
            x.run(0, 0, 2, 0);
            due("all but line " + line, reason(x), 6);
            x.run(0, 0, 1, 0);
            due("line " + line + " alone", reason(x), 0);
        }
    }

    private static void voidByTurn() {
        holds(21, "7 the TURN has run on this DAY");
        EngineShed x = Bounds.sheds(3);
        turn(x, 0, 0, 6, 10, 5);
        turn(x, 0, 0, 6, 10, 5);
        x.engine(0, 0);
        x.run(1, 0, 1, 4);
        due("a void one", reason(x), 2);
        x.run(0, 0, 0, 4);
        due("does not count", reason(x), 0);
        x.run(3, 0, 1, 4);
        due("once more on this day", reason(x), 7);
        x.run(3, 1, 1, 4);
        due("another turn", reason(x), 0);
        x.run(3, 0, 1, 5);
        due("the next day", reason(x), 0);
        x.run(0, 0, 0, 3);
        due("the day ahead", reason(x), 0);
        // The last turn's number is told apart from the first one's.
        EngineShed y = Bounds.sheds(2);
        for (int t = 0; t < 12; t++) turn(y, 0, 0, 2 * t, 2 * t + 1, 5);
        y.run(0, 0, 0, 0);
        y.run(0, 11, 0, 0);
        due("turn 11 behind turn 0", reason(y), 0);
        y.run(0, 11, 1, 0);
        due("again: it has run up to an hour behind", reason(y), 3);
    }

    private static void leastReason() {
        holds(21, "VOID, the least reason counts");
        // Each reason alone and with all that are greater: engine 2, turn 3, man 2 on day 5.
        for (int least = 1; least <= 7; least++) {
            due("all from " + least + " on", reason(barred(least, 7)), least);
            for (int other = least + 1; other <= 7; other++) due(least + " and " + other, reason(barredByTwo(least, other)), least);
            due("it alone, " + least, reason(barredByTwo(least, least)), least);
        }
        due("none", reason(barred(8, 7)), 0);
    }

    private static EngineShed barredByTwo(int one, int other) {
        boolean[] by = new boolean[8];
        by[one] = true;
        by[other] = true;
        return barredBy(by);
    }

    private static EngineShed barred(int from, int to) {
        boolean[] by = new boolean[8];
        for (int i = from; i <= to; i++) by[i] = true;
        return barredBy(by);
    }

    /** A last fact that is a run of engine 0 and man 0 on turn 0 (0 to 1, 8 .. 12, line 3), void by these reasons. */
    private static EngineShed barredBy(boolean[] by) {
        EngineShed x = new EngineShed();
        for (int i = 0; i < 3; i++) x.shed();
        for (int i = 0; i < 4; i++) x.engine(i == 0 ? 5 : 0, i % 3);
        x.man(by[6] ? 255 ^ 8 : 255);
        x.man(255);
        x.man(255);
        x.turn(0, 1, 8, 12, 10, 0, 3, false);
        x.turn(0, 0, 7, 9, 10, 1, 0, false);
        x.turn(1, 1, 8, 9, 10, 1, 0, false);
        if (by[4]) Bounds.read(x, "bar a if class == 5 and load == 0;");
        if (by[7]) {
            x.run(3, 0, 1, 5);
            due("a run ahead, for 7", reason(x), 0);
        }
        if (by[5]) {
            x.run(1, 2, 0, 5);
            due("a run ahead, for 5", reason(x), 0);
        }
        if (by[3]) {
            x.run(0, 1, 2, 5);
            due("a run ahead, for 3", reason(x), 0);
        }
        if (by[2]) x.lent(0, 2, 5);
        if (by[1]) x.fails(0, by[3] || by[2] ? 5 : 4, 0);
        x.run(0, 0, 0, 5);
        return x;
    }

    // ---- what a run that holds tells

    private static void heldOutside() {
        holds(22, "NONE: VOID, no such ones.");
        EngineShed x = Bounds.yard();
        int[] told = {77, 10, 0, 0, 0};
        for (int what = 0; what < 5; what++) due("held(0, 12, " + what + ")", x.held(0, 12, what), told[what]);
        int[] last = {100, 10, 8, 0, 138};
        for (int what = 0; what < 5; what++) due("held(10, 12, " + what + ")", x.held(10, 12, what), last[what]);
        due("the first n that knows it", x.held(10, 11, 0), 100);
        int[][] no = {{4, 12, 0}, {4, 5, 4}, {0, 12, -1}, {0, 12, 5}, {0, 12, MIN}, {0, 12, MAX}, {0, 0, 0}, {0, -1, 0},
            {0, 13, 0}, {0, MIN, 0}, {0, MAX, 0}, {10, 10, 0}, {-1, 12, 0}, {12, 12, 0}, {12, 13, 0}, {MIN, 12, 0}, {MAX, 12, 0},
            {2, 12, 0}, {5, 12, 0}, {6, 12, 0}, {7, 12, 0}, {8, 12, 0}, {9, 12, 0}, {11, 12, 0}};
        for (int[] a : no) Bounds.refused(Bounds::yard, "held" + Arrays.toString(a), NONE, y -> y.held(a[0], a[1], a[2]));
        EngineShed y = lineOf(2);
        y.run(0, 0, 0, 3);
        y.fact(WASH, 0, 3);
        y.shops(0, 1, 9);
        due("it holds, by 2", y.held(0, 2, 0), 100);
        due("it is void, by 3", y.held(0, 3, 0), NONE);
    }

    private static void miles() {
        holds(22, "MILES of a RUN: those of the TURN, or as a later FACT (a MILE, of the RUN's number) KNOWN by n tells; the last one.");
        EngineShed x = lineOf(2);
        x.run(0, 0, 0, 0);
        x.run(0, 1, 0, 0);
        int[] told = {9999, 0, 1, 250};
        for (int v : told) x.mile(0, v);
        due("those of the turn", x.held(0, 2, 0), 100);
        for (int i = 0; i < told.length; i++) {
            due("by " + (3 + i), x.held(0, 3 + i, 0), told[i]);
            due("ahead of the next run", x.held(1, 3 + i, 4), told[i]);
            due("the other run's", x.held(1, 3 + i, 0), 61);
            due("the engine's", x.state(0, 0, 3 + i, 2), told[i] + 61);
        }
        due("by 2 again", x.held(0, 2, 0), 100);
        EngineShed y = Bounds.sheds(1);
        Bounds.read(y, "wear w far; bar b if far == 300;");
        y.turn(0, 0, 1, 2, 40, 0, 0, true);
        turn(y, 0, 0, 3, 4, 30);
        y.run(0, 0, 0, 0);
        y.run(0, 1, 0, 0);
        y.mile(0, 300);
        y.mile(1, 300);
        due("a spare one's miles as told", y.held(0, 4, 0), 300);
        due("its far stays 0", y.held(0, 4, 1), 0);
        due("far is the turn's", y.held(1, 4, 1), 30);
    }

    /** What the wear of a run comes to by some rules: class 5, load 99, line 7, 2 .. 24 hours are no matter here. */
    private static void worn(String rules, int want) {
        EngineShed x = Bounds.sheds(1);
        due("'" + rules + "' is read", Bounds.read(x, rules), 0);
        x.turn(0, 0, 2, 5, 40, 7, 3, false);
        x.run(0, 0, 0, 3);
        due("wear by '" + rules + "'", x.held(0, 1, 1), want);
        due("the engine's, by '" + rules + "'", x.state(0, 3, 1, 3), want);
    }

    private static void coaled(String rules, int want) {
        EngineShed x = Bounds.sheds(1);
        due("'" + rules + "' is read", Bounds.read(x, rules), 0);
        x.turn(0, 0, 2, 5, 40, 7, 3, false);
        x.run(0, 0, 0, 3);
        due("coal by '" + rules + "'", x.held(0, 1, 2), want);
        due("the shed's, by '" + rules + "'", x.coal(0, 3, 1), -want);
    }

    private static void wear() {
        holds(22, "held to 0 .. 999; 0 without");
        String[] values = {"0 - 9999", "0 - 1", "0", "1", "998", "999", "1000", "9999", "8192 * 8192 * 32", "8192 * 8192 * 32 - 1"};
        int[] held = {0, 0, 0, 1, 998, 999, 999, 999, 0, 999};
        for (int i = 0; i < values.length; i++) {
            worn("wear w " + values[i] + ";", held[i]);
            coaled("coal c " + values[i] + ";", held[i]);
        }
        worn("", 0);
        coaled("", 0);
        worn("wear w 5 if 2 < 1;", 0);
        coaled("coal w 5 if 2 < 1;", 0);
        worn("coal c 5; price p 6;", 0);
        coaled("wear c 5; price p 6;", 0);
        worn("from 3; wear w 5;", 5);
        worn("from 4; wear w 5;", 0);
        coaled("from 3; coal w 5;", 5);
        coaled("from 4; coal w 5;", 0);
        // The sum of what is held to 999 goes on.
        EngineShed x = Bounds.sheds(1);
        Bounds.read(x, "wear w 1000;");
        turn(x, 0, 0, 2, 3, 1);
        for (int day = 0; day < 20; day++) x.run(0, 0, 0, day);
        due("20 times 999", x.state(0, 19, 20, 3), 19980);
    }

    private static void firstHolding() {
        holds(22, "the E of the first wear RULE in force that holds");
        worn("wear a 1 if load == 6; wear b 2 if load == 7; wear c 3;", 2);
        worn("wear a 1 if load == 7; wear b 2 if load == 7; wear c 3;", 1);
        worn("wear a 1 if load == 6; wear b 2 if load == 8; wear c 3;", 3);
        worn("wear a 1 if load == 6; wear b 2 if load == 8; wear c 3 if load == 9;", 0);
        worn("wear a 1; wear b 2; wear a 3 if load == 6;", 2);
        worn("wear a 1; wear b 2; strike a;", 2);
        worn("wear a 0; wear b 2;", 0);
        worn("wear a 1/0; wear b 2;", 0);
        worn("wear a 0 - 1; wear b 2;", 0);
    }

    // ---- ints, conditions

    private static void given(String lit, boolean holds) {
        worn("wear w 1 if " + lit + ";", holds ? 1 : 0);
        worn("wear w 1 if not " + lit + ";", holds ? 0 : 1);
    }

    private static void value(String e, int want) {
        worn("wear w " + e + ";", want);
    }

    private static void ints() {
        holds(22, "Ints of 32 bits that wrap; / is rounded towards 0");
        String most = "(8192 * 8192 * 32 - 1)";
        String least = "8192 * 8192 * 32";
        given(least + " < 0", true);
        given(most + " < 0", false);
        given("0 < " + most, true);
        given(most + " + 1 == " + least, true);
        given(least + " - 1 == " + most, true);
        given("0 - " + least + " == " + least, true);
        given(least + " / (0 - 1) == " + least, true);
        given("(" + least + ") * (0 - 1) == " + least, true);
        // 9999 to the third is 999700029999: 4294967296 * 232 + 3267617327, which is below 0.
        given("9999 * 9999 * 9999 == 0 - (1020 * 1000 * 1000 + 7349 * 1000 + 969)", true);
        given("9999 * 9999 * 21 < 9999 * 9999 * 22", false);
        given("65 * 1024 * 1024 * 64 == 8192 * 8192", true);
        String[] parts = {"7 / 2", "(0 - 7) / 2", "7 / (0 - 2)", "(0 - 7) / (0 - 2)", "1 / 2", "(0 - 1) / 2", "0 / 5", "(0 - 8) / 2"};
        int[] come = {3, -3, -3, 3, 0, 0, 0, -4};
        for (int i = 0; i < parts.length; i++) {
            given(parts[i] + " == 0 - " + (9 - come[i]) + " + 9", true);
            value("100 + " + parts[i], 100 + come[i]);
        }
        value("10 - 3 - 2", 5);
        value("10 - (3 - 2)", 9);
        value("100 / 10 / 5", 2);
        value("100 / (10 / 5)", 50);
        value("7 / 2 * 2", 6);
        value("2 + 3 * 4", 14);
        value("(2 + 3) * 4", 20);
        value("7 * 2 / 4", 3);
        value("10 - 3 + 2", 9);
        value("10 + 3 - 2", 11);
        value("10 - 2 * 3", 4);
        value("2 + 6 / 4", 3);
        value("9 - 6 / 4", 8);
        value("2 * 3 + 4 * 5 - 6 / 2", 23);
        value("1 + 2 * (3 + 4) * 5", 71);
        value("((((((9))))))", 9);
        String[] signs = {"==", "!=", "<", "<="};
        for (int i = 0; i < signs.length; i++) {
            given("5 " + signs[i] + " 3 + 2", i % 2 == 0 ? i == 0 : i == 3);
            given("3 + 2 " + signs[i] + " 5", i % 2 == 0 ? i == 0 : i == 3);
            given("1 " + signs[i] + " 7 - 3 * 2", i % 2 == 0 ? i == 0 : i == 3);
            given("2 * 3 - 1 " + signs[i] + " 9 - 3", i != 0);
            given("9 - 1 " + signs[i] + " 6 / 2", i == 1);
        }
        value("0009", 9);
        worn("wear w 1 if 1 < 2 or 1 < 2 and 2 < 1;", 1);
        worn("wear w 1 if 2 < 1 and 2 < 1 or 1 < 2;", 1);
        worn("wear w 1 if not 1 < 2 or 1 < 2;", 1);
        worn("wear w 1 if not 2 < 1 and 2 < 1;", 0);
        worn("wear w 1 if not not 1 < 2;", 1);
        worn("wear w 1 if 1 < 2 and not not not 1 < 2;", 0);
        given("1 < 1", false);
        given("1 <= 1", true);
        given("2 <= 1", false);
        given("1 == 1", true);
        given("1 != 1", false);
        given("0 - 1 < 0", true);
    }

    private static void divisionByZero() {
        holds(22, "a LIT in which there is a division by 0 does not hold (its not does), an E with one is 0");
        String[] lits = {"1 / 0 == 0", "1 / 0 != 5", "0 / 0 == 0", "0 < 5 + 1 / 0", "1 / 0 < 5", "5 <= 9 + 0 * (1 / 0)", "7 == 7 + 0 / (3 - 3)",
            "1 / (1 / 2) <= 9", "1 / (1 / 0) <= 9", "1 / worn < 9", "1 / 0 == 1 / 0"};
        for (String lit : lits) {
            worn("wear w 1 if " + lit + ";", 0);
            worn("wear w 1 if not " + lit + ";", 1);
            worn("wear w 1 if not not " + lit + ";", 0);
            worn("wear w 1 if " + lit + " or 1 < 2;", 1);
            worn("wear w 1 if 1 < 2 or " + lit + ";", 1);
            worn("wear w 1 if " + lit + " and 1 < 2;", 0);
            worn("wear w 1 if 1 < 2 and " + lit + ";", 0);
            worn("wear w 1 if 1 < 2 and not " + lit + ";", 1);
            worn("wear w 1 if not " + lit + " and 1 < 2;", 1);
            worn("wear w 9 if " + lit + "; wear v 4;", 4);
        }
        value("5 + 1 / 0", 0);
        value("1 / 0 + 5", 0);
        value("5 + 0 * (1 / 0)", 0);
        value("0 / 0", 0);
        value("5 + 1 / (1 / 2)", 0);
        value("5 + 1 / worn", 0);
        value("5 + 0 / 1", 5);
        value("5 + 1 / (2 / 2)", 6);
        coaled("coal c 5 + 1 / 0;", 0);
        coaled("coal c 5 + 1 / 1;", 6);
        // One rule's division by 0 is no matter to another one's, nor a condition's to the E.
        coaled("wear w 1 / 0; coal c 7 if 1 < 2;", 7);
        coaled("wear w 1 / 0; coal c 7;", 7);
        worn("wear w 1 / 0 if 2 < 1; wear v 4 if 1 < 2;", 4);
        worn("wear w 5 + 1 if 1 < 2;", 6);
        worn("wear w 5 + 2 * (1 + 1) if 1 + 1 == 2 and not 2 + 1 == 2 * 1;", 9);
        worn("wear w 7 if not 1 / 0 == 0;", 7);
        worn("wear w 7 if 1 / 0 == 0 or 1 < 2;", 7);
    }

    // ---- vars

    private static void variables() {
        holds(22, "VARS on a DAY: day; class; miles, worn: MILES, WEAR so far; days, looked: DAYS since it was washed, looked at; lent: 1 if its KEEPER is not its HOME");
        worn("wear w day;", 3);
        worn("wear w day + 10 * class;", 3);
        worn("wear w days;", 3);
        worn("wear w looked;", 3);
        worn("wear w lent;", 0);
        worn("wear w miles + worn;", 0);
        EngineShed x = Bounds.sheds(2);
        x.engine(5, 0);
        Bounds.read(x, "wear w 100 * class + 10 * day + lent; coal c 100 * days + looked;");
        x.turn(0, 0, 0, 1, 0, 0, 0, false);
        x.turn(1, 1, 0, 1, 0, 0, 0, false);
        x.run(2, 0, 0, 0);
        x.fact(WASH, 2, 2);
        x.fact(LOOK, 2, 3);
        x.lent(2, 1, 4);
        x.run(2, 1, 0, 4);
        x.fact(HOME, 2, 5);
        x.run(2, 0, 0, 5);
        x.shops(2, 6, 9);
        x.run(2, 0, 0, 9);
        due("day 0: class 5, day 0, at home", x.held(0, 9, 1), 500);
        due("day 0: days 0, looked 0", x.held(0, 9, 2), 0);
        due("day 4: lent", x.held(4, 9, 1), 541);
        due("day 4: days 2, looked 1", x.held(4, 9, 2), 201);
        due("day 5: at home", x.held(6, 9, 1), 550);
        due("day 9: days 0, looked 0", x.held(8, 9, 2), 0);
        due("day 9", x.held(8, 9, 1), 590);
        holds(22, "of a TURN load, line, hours (b - a), far (its MILES as it is told), spare: 1 if it is SPARE (0 where no TURN is asked)");
        worn("wear w load;", 7);
        worn("wear w line;", 3);
        worn("wear w hours;", 3);
        worn("wear w far;", 40);
        worn("wear w spare;", 0);
        int[][] turns = {{0, 1, 400, 99, 7}, {14, 24, 0, 0, 0}, {23, 24, 1, 98, 1}};
        for (int[] t : turns) {
            for (boolean spare : new boolean[] {false, true}) {
                EngineShed y = Bounds.sheds(1);
                Bounds.read(y, "wear w 10 * load + line; coal c 2 * far + spare;");
                Bounds.read(y, "price p 1000 * hours + load;");
                y.turn(0, 0, t[0], t[1], t[2], t[3], t[4], spare);
                y.run(0, 0, 0, 0);
                due("load, line " + Arrays.toString(t), y.held(0, 1, 1), 10 * t[3] + t[4]);
                due("far, spare " + Arrays.toString(t), y.held(0, 1, 2), spare ? 1 : 2 * t[2]);
                due("hours " + Arrays.toString(t), y.best(0, 1, 0), Math.min(9999, 1000 * (t[1] - t[0]) + t[3]));
            }
        }
        for (String var : new String[] {"load", "line", "hours", "far", "spare"}) {
            EngineShed y = Bounds.sheds(1);
            y.turn(0, 0, 2, 5, 40, 7, 3, false);
            Bounds.read(y, "due d if " + var + " == 0;");
            due("no turn is asked: " + var, y.due(0, 0, 0), 1);
        }
    }

    private static void aheadOf() {
        holds(22, "worked out ahead of its MILES");
        EngineShed x = lineOf(2);
        Bounds.read(x, "wear w miles + 2 * worn + 1; coal c 2 * miles + worn;");
        x.run(0, 0, 0, 0);
        x.run(0, 1, 0, 0);
        x.run(0, 0, 0, 1);
        int[] wear = {1, 103, 370};
        int[] coal = {0, 201, 426};
        int[] ahead = {0, 100, 161};
        for (int i = 0; i < 3; i++) {
            due("wear " + i, x.held(i, 3, 1), wear[i]);
            due("coal " + i, x.held(i, 3, 2), coal[i]);
            due("the engine's miles ahead of it, " + i, x.held(i, 3, 4), ahead[i]);
        }
        due("its wear", x.state(0, 1, 3, 3), 474);
        EngineShed y = lineOf(2);
        Bounds.read(y, "bar b if 100 <= miles or 7 <= worn; wear w 6;");
        y.run(0, 0, 0, 0);
        due("its own miles do not bar it", reason(y), 0);
        y.run(0, 1, 0, 0);
        due("those of the run ahead do", reason(y), 4);
        EngineShed z = lineOf(2);
        Bounds.read(z, "bar b if 6 <= worn; wear w 6;");
        z.run(0, 0, 0, 0);
        due("its own wear does not bar it", reason(z), 0);
        z.run(0, 1, 0, 0);
        due("that of the run ahead does", reason(z), 4);
    }

    // ---- bar

    private static void barOutside() {
        holds(23, "NONE: it is not so, no such ones.");
        EngineShed x = Bounds.yard();
        for (int n = 5; n <= 12; n++) due("bar(4, " + n + ")", x.bar(4, n), 0);
        int[][] no = {{4, 4}, {4, 0}, {4, -1}, {4, 13}, {4, MIN}, {4, MAX}, {0, 12}, {1, 12}, {10, 12}, {2, 12}, {5, 12}, {6, 12},
            {7, 12}, {8, 12}, {9, 12}, {11, 12}, {12, 12}, {12, 13}, {-1, 12}, {MIN, 12}, {MAX, 12}};
        for (int[] a : no) Bounds.refused(Bounds::yard, "bar" + Arrays.toString(a), NONE, y -> y.bar(a[0], a[1]));
        for (int reason = 0; reason <= 7; reason++) {
            boolean[] by = new boolean[8];
            by[reason] = true;
            EngineShed y = barredBy(by);
            due("void by " + reason, y.bar(y.count(4) - 1, y.count(4)), reason == 4 ? 0 : NONE);
        }
        due("void by 3 with a rule that holds", barOf(barredByTwo(3, 4)), NONE);
        due("void by 4 and 5", barOf(barredByTwo(4, 5)), 0);
    }

    private static int barOf(EngineShed x) {
        return x.bar(x.count(4) - 1, x.count(4));
    }

    private static void barNumbers() {
        holds(23, "the bar RULE's k in rule()");
        int[] loads = {5, 6, 7, 8};
        int[] ks = {3, 3, 1, NONE};
        for (int i = 0; i < loads.length; i++) {
            EngineShed x = Bounds.sheds(1);
            Bounds.read(x, "strike z; wear w 1; bar a if load == 7; due d if 1 < 2; bar c if load <= 7;");
            x.turn(0, 0, 0, 1, 0, loads[i], 0, false);
            x.run(0, 0, 0, 0);
            due("load " + loads[i], x.bar(0, 1), ks[i]);
            if (ks[i] != NONE) due("it is a bar rule", x.rule(0, ks[i], 0), 0);
        }
        EngineShed x = Bounds.sheds(1);
        Bounds.read(x, "wear w 1; bar a if 1 < 2;");
        Bounds.read(x, "from 5; strike w;");
        Bounds.read(x, "from 7; wear v 1; bar a if 2 < 1; bar b if 1 < 2;");
        turn(x, 0, 0, 0, 1, 0);
        int[] days = {4, 5, 6, 7, 119};
        int[] at = {1, 0, 0, 2, 2};
        for (int i = 0; i < days.length; i++) {
            x.run(0, 0, 0, days[i]);
            due("k on day " + days[i], x.bar(i, i + 1), at[i]);
        }
        // The last of as many as there can be: the k-th holds for a load of k - 44.
        EngineShed y = Bounds.sheds(1);
        for (int t = 0; t < 6; t++) {
            StringBuilder s = new StringBuilder();
            for (int i = 0; i < 24; i++) {
                s.append("bar ").append((char) ('a' + t)).append((char) ('a' + i));
                s.append(" if load + 44 == ").append(24 * t + i).append(';');
            }
            due("text " + t, Bounds.read(y, s.toString()), 0);
        }
        y.turn(0, 0, 0, 1, 0, 99, 0, false);
        y.turn(0, 0, 2, 3, 0, 0, 0, false);
        y.run(0, 0, 0, 0);
        y.run(0, 1, 0, 0);
        due("rules", y.rules(0), 144);
        due("the last one", y.bar(0, 2), 143);
        due("one amid them", y.bar(1, 2), 44);
    }
}
