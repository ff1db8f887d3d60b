import java.util.Arrays;

/** Boundary cases of the document's part III: what is due, beyond, who helps, coal, debts, what turned (24 to 28, 41). */
public final class BoundsAskedTest {
    private static final int NONE = Bounds.NONE;
    private static final int OUTSIDE = Bounds.OUTSIDE;
    private static final int MIN = Bounds.MIN;
    private static final int MAX = Bounds.MAX;

    public static void main(String[] args) {
        dueOutside();
        dueDays();
        dueMorning();
        beyondOutside();
        beyondDays();
        beyondRuns();
        helpOutside();
        helpHours();
        helpOthers();
        helpLeast();
        helpPlace();
        coalOutside();
        coalDays();
        coalRuns();
        owesOutside();
        owesClasses();
        owesDays();
        owesBoth();
        turnedOutside();
        turnedRuns();
        turnedByLater();
        askingChangesNothing();
        Bounds.finish();
    }

    private static void holds(int promise, String words) {
        Bounds.holds(promise, words);
    }

    private static void due(String call, int got, int want) {
        Bounds.due(call, got, want);
    }

    private static int turn(EngineShed x, int from, int to, int a, int b, int miles) {
        return x.turn(from, to, a, b, miles, 0, 0, false);
    }

    private static int spare(EngineShed x, int shed, int a, int b) {
        return x.turn(shed, shed, a, b, 0, 0, 0, true);
    }

    // ---- due

    private static void dueOutside() {
        holds(24, "1 if an ENGINE is DUE on a DAY, as KNOWN by n, else 0; NONE: no such ones.");
        int[][] yes = {{0, 0, 0, 0}, {0, 4, 12, 1}, {0, 5, 12, 0}, {0, 5, 0, 0}, {0, 6, 0, 1}, {2, 119, 12, 1}, {2, 0, 12, 0}, {1, 119, 0, 1}};
        for (int[] a : yes) due("due" + Arrays.toString(a), Bounds.yard().due(a[0], a[1], a[2]), a[3]);
        int[][] no = {{-1, 0, 0}, {3, 0, 0}, {MIN, 0, 0}, {MAX, 0, 0}, {0, -1, 0}, {0, 120, 0}, {0, MIN, 0}, {0, MAX, 0},
            {0, 0, -1}, {0, 0, 13}, {0, 0, MIN}, {0, 0, MAX}};
        for (int[] a : no) Bounds.refused(Bounds::yard, "due" + Arrays.toString(a), NONE, x -> x.due(a[0], a[1], a[2]));
        EngineShed x = Bounds.fullYard();
        due("the last engine by all 180", x.due(8, 6, 180) == NONE ? 0 : 1, 1);
        due("by 181", x.due(8, 6, 181), NONE);
        due("without rules", Bounds.sheds(1).due(0, 119, 0), 0);
    }

    private static void dueDays() {
        holds(24, "An ENGINE is DUE on a DAY if a due RULE in force holds");
        EngineShed x = Bounds.sheds(2);
        Bounds.read(x, "from 4; due d if days <= 5; bar b if 1 < 2; wear w 1;");
        Bounds.read(x, "from 8; strike d;");
        for (int day = 0; day <= 9; day++) due("in force on 4 .. 7, holds up to 5, day " + day, x.due(0, day, 0), day == 4 || day == 5 ? 1 : 0);
        EngineShed y = Bounds.sheds(2);
        Bounds.read(y, "due a if day == 3; due b if day == 119 and class == 0; due c if class == 5;");
        y.engine(5, 0);
        for (int day : new int[] {0, 2, 3, 4, 118, 119}) {
            due("any of them, day " + day, y.due(0, day, 0), day == 3 || day == 119 ? 1 : 0);
            due("class 5, day " + day, y.due(2, day, 0), 1);
        }
        EngineShed z = Bounds.sheds(2);
        Bounds.read(z, "due a if 3 < looked or 6 <= days;");
        z.fact(1, 0, 2);
        z.fact(0, 0, 3);
        z.fact(1, 0, 6);
        int[] want = {0, 0, 0, 0, 0, 0, 1, 0, 0, 1};
        for (int day = 0; day <= 9; day++) due("washed on 3, looked at on 2 and 6, day " + day, z.due(0, day, 3), want[day]);
        for (int day = 0; day <= 6; day++) due("known by none, day " + day, z.due(0, day, 0), day < 4 ? 0 : 1);
        due("the last one is not known", z.due(0, 7, 2), 1);
    }

    private static void dueMorning() {
        holds(24, "(no TURN asked; as it is ahead of all FACTS of the DAY)");
        EngineShed x = Bounds.sheds(2);
        Bounds.read(x, "due d if 100 <= miles; due e if 0 < lent; due f if load + far + hours + line + spare != 0;");
        x.turn(0, 0, 1, 2, 99, 5, 1, false);
        x.turn(0, 0, 3, 4, 1, 5, 1, false);
        x.run(0, 0, 0, 5);
        due("99 miles, the day behind", x.due(0, 6, 1), 0);
        x.run(0, 1, 0, 5);
        due("100 miles of this day", x.due(0, 5, 2), 0);
        due("100 miles, the day behind", x.due(0, 6, 2), 1);
        due("the 100th is not known", x.due(0, 6, 1), 0);
        x.fact(0, 0, 7);
        due("a wash of this day does not count yet", x.due(0, 7, 3), 1);
        due("it does on the day behind", x.due(0, 8, 3), 0);
        x.lent(0, 1, 8);
        due("lent on this day", x.due(0, 8, 4), 0);
        due("lent the day ahead", x.due(0, 9, 4), 1);
        EngineShed y = Bounds.sheds(2);
        Bounds.read(y, "due d if 5 <= days; due e if 1 <= miles;");
        turn(y, 0, 0, 1, 2, 3);
        y.run(0, 0, 0, 0);
        y.shops(0, 4, 7);
        int[] want = {0, 1, 1, 1, 1, 1, 1, 0, 0, 0, 0, 0, 1};
        for (int day = 0; day < want.length; day++) due("in the shops 4 to 7, day " + day, y.due(0, day, 2), want[day]);
    }

    // ---- beyond

    /** Runs 0 .. 3 on days 3, 5, 5, 119 hold and are beyond; run 4 on day 2 is not, run 5 on day 5 is void. */
    private static EngineShed overdue() {
        EngineShed x = Bounds.sheds(2);
        Bounds.read(x, "due d if 3 <= day;");
        turn(x, 0, 0, 1, 2, 3);
        turn(x, 0, 0, 3, 4, 3);
        x.run(0, 0, 0, 3);
        x.run(0, 0, 0, 5);
        x.run(0, 1, 0, 5);
        x.run(0, 1, 0, 119);
        x.run(0, 0, 0, 2);
        x.run(1, 0, 1, 5);
        return x;
    }

    private static void beyondOutside() {
        holds(25, "NONE: no such ones, b below a.");
        int[][] yes = {{0, 0, 0, 0}, {0, 119, 0, 0}, {119, 119, 6, 1}, {0, 119, 6, 4}, {0, 0, 6, 0}, {5, 5, 6, 2}, {118, 119, 6, 1}};
        for (int[] a : yes) due("beyond" + Arrays.toString(a), overdue().beyond(a[0], a[1], a[2]), a[3]);
        int[][] no = {{-1, 0, 0}, {-1, 119, 6}, {MIN, 119, 6}, {120, 120, 6}, {0, 120, 6}, {0, MAX, 6}, {MAX, MAX, 6}, {1, 0, 6},
            {5, 4, 6}, {119, 118, 6}, {119, 0, 6}, {0, -1, 6}, {MAX, MIN, 6}, {0, 119, -1}, {0, 119, 7}, {0, 119, MIN}, {0, 119, MAX}};
        for (int[] a : no) {
            due("beyond" + Arrays.toString(a), overdue().beyond(a[0], a[1], a[2]), NONE);
            Bounds.refused(Bounds::yard, "beyond" + Arrays.toString(new int[] {a[0], a[1], a[2] == 6 ? 12 : a[2] == 7 ? 13 : a[2]}), NONE,
                x -> x.beyond(a[0], a[1], a[2] == 6 ? 12 : a[2] == 7 ? 13 : a[2]));
        }
        EngineShed full = Bounds.fullYard();
        due("by all 180", full.beyond(0, 119, 180), 0);
        due("by 181", full.beyond(0, 119, 181), NONE);
    }

    private static void beyondDays() {
        holds(25, "How many RUNS are BEYOND on DAYS a .. b, as KNOWN by n");
        EngineShed x = overdue();
        int[][] spans = {{0, 2, 0}, {0, 3, 1}, {3, 3, 1}, {3, 4, 1}, {4, 4, 0}, {4, 5, 2}, {3, 5, 3}, {5, 118, 2}, {6, 118, 0}, {6, 119, 1}, {3, 119, 4}};
        for (int[] s : spans) due("days " + s[0] + " .. " + s[1], x.beyond(s[0], s[1], 6), s[2]);
        int[] byN = {0, 1, 2, 3, 4, 4, 4};
        for (int n = 0; n <= 6; n++) due("by " + n, x.beyond(0, 119, n), byN[n]);
    }

    private static void beyondRuns() {
        holds(25, "A RUN that HOLDS of one that is DUE is BEYOND.");
        EngineShed x = overdue();
        for (int run = 0; run < 6; run++) {
            due("run " + run, x.held(run, 6, 3), run < 4 ? 1 : run == 4 ? 0 : NONE);
        }
        // As it was in the morning: what it runs on this day makes it due on the next one.
        EngineShed y = Bounds.sheds(2);
        Bounds.read(y, "due d if 3 <= miles; due e if 0 < load;");
        y.turn(0, 0, 1, 2, 3, 9, 0, false);
        y.turn(0, 0, 3, 4, 3, 9, 0, false);
        y.run(0, 0, 0, 7);
        y.run(0, 1, 0, 7);
        y.run(0, 0, 0, 8);
        due("of day 7", y.beyond(7, 7, 3), 0);
        due("of day 8", y.beyond(8, 8, 3), 1);
        y.fact(0, 0, 9);
        y.run(0, 0, 0, 10);
        due("washed", y.held(4, 5, 3), 0);
        // A look or a loan of this day does not undo it.
        EngineShed z = Bounds.sheds(2);
        Bounds.read(z, "due d if 2 <= looked; due e if lent == 0 and day == 9;");
        turn(z, 0, 0, 1, 2, 3);
        turn(z, 1, 1, 1, 2, 3);
        z.fact(1, 0, 5);
        z.run(0, 0, 0, 5);
        due("looked at on this day", z.held(1, 2, 3), 1);
        z.run(0, 0, 0, 6);
        due("the day behind", z.held(2, 3, 3), 0);
        z.fact(1, 0, 8);
        z.lent(0, 1, 9);
        z.run(0, 1, 0, 9);
        due("lent on this day", z.held(5, 6, 3), 1);
        EngineShed w = Bounds.sheds(2);
        Bounds.read(w, "due d if 2 <= days;");
        turn(w, 0, 0, 1, 2, 3);
        w.shops(0, 1, 5);
        w.run(0, 0, 0, 5);
        w.run(0, 0, 0, 6);
        w.run(0, 0, 0, 7);
        due("the day on which it leaves the shops", w.held(1, 4, 3), 0);
        due("the day behind", w.held(2, 4, 3), 0);
        due("two days behind", w.held(3, 4, 3), 1);
    }

    // ---- help

    /** Engine 0 fails on day 4 at an hour (fact 0); engine 1 is spare at shed 1, 6 .. 10, on day 4 (fact 1). */
    private static EngineShed trouble(int hour) {
        EngineShed x = Bounds.sheds(3);
        spare(x, 1, 6, 10);
        spare(x, 2, 0, 10);
        spare(x, 0, 14, 24);
        x.fails(0, 4, hour);
        x.run(1, 0, 1, 4);
        return x;
    }

    private static void helpOutside() {
        holds(26, "the ENGINE; -2: none; NONE: no such FACT among the first n, another one, it did nothing.");
        EngineShed x = trouble(7);
        x.fails(0, 4, 8);
        due("as known by 1", x.help(0, 1), -2);
        due("as known by 2", x.help(0, 2), 1);
        due("as known by 3", x.help(0, 3), 1);
        int[][] no = {{0, 0}, {0, -1}, {0, 4}, {0, MIN}, {0, MAX}, {1, 3}, {2, 3}, {3, 3}, {-1, 3}, {3, 4}, {MIN, 3}, {MAX, 3}, {2, 2}};
        for (int[] a : no) due("help" + Arrays.toString(a), x.help(a[0], a[1]), NONE);
        EngineShed y = Bounds.yard();
        for (int n = 6; n <= 12; n++) due("in the yard, by " + n, y.help(5, n), 1);
        int[][] yard = {{5, 5}, {5, 13}, {5, -1}, {0, 12}, {1, 12}, {2, 12}, {3, 12}, {4, 12}, {6, 12}, {7, 12}, {8, 12}, {9, 12},
            {10, 12}, {11, 12}, {12, 12}, {-1, 12}, {5, MAX}, {5, MIN}, {MAX, MAX}};
        for (int[] a : yard) Bounds.refused(Bounds::yard, "help" + Arrays.toString(a), NONE, z -> z.help(a[0], a[1]));
        // One that did something by one n did nothing by another.
        EngineShed z = trouble(7);
        z.shops(0, 3, 9);
        due("by 2", z.help(0, 2), 1);
        due("in the shops by 3", z.help(0, 3), NONE);
        due("by 2 again", z.help(0, 2), 1);
        EngineShed w = trouble(7);
        w.fails(0, 3, 1);
        due("failed the day ahead, by 3", w.help(0, 3), NONE);
        due("the one ahead did something", w.help(2, 3), -2);
    }

    private static void helpHours() {
        holds(26, "whose RUN of a SPARE TURN HOLDS on that DAY with the hour in a .. b - 1");
        for (int hour = 0; hour < 24; hour++) due("6 .. 10, hour " + hour, trouble(hour).help(0, 2), hour >= 6 && hour < 10 ? 1 : -2);
        for (int hour = 0; hour < 24; hour++) {
            EngineShed x = Bounds.sheds(3);
            spare(x, 1, 0, 1);
            spare(x, 2, 23, 24);
            x.fails(0, 0, hour);
            x.run(1, 0, 1, 0);
            x.run(2, 1, 2, 0);
            due("0 .. 1 and 23 .. 24, hour " + hour, x.help(0, 3), hour == 0 ? 1 : hour == 23 ? 2 : -2);
        }
        for (int day = 3; day <= 5; day++) {
            EngineShed x = Bounds.sheds(3);
            spare(x, 1, 6, 10);
            x.fails(0, 4, 7);
            x.run(1, 0, 1, day);
            due("a spare run of day " + day, x.help(0, 2), day == 4 ? 1 : -2);
        }
        EngineShed y = Bounds.sheds(3);
        y.turn(1, 1, 6, 10, 0, 0, 0, false);
        y.fails(0, 4, 7);
        y.run(1, 0, 1, 4);
        due("a turn that is not spare", y.help(0, 2), -2);
        EngineShed z = trouble(7);
        z.fails(1, 4, 0);
        z.fails(1, 3, 0);
        due("failed behind its spare run: that holds", z.help(0, 3), 1);
        due("failed the day ahead: it is void", z.help(0, 4), -2);
    }

    private static void helpOthers() {
        holds(26, "of other ENGINES");
        EngineShed x = Bounds.sheds(3);
        spare(x, 0, 6, 10);
        x.run(0, 0, 0, 4);
        x.fails(0, 4, 7);
        due("itself", x.help(1, 2), -2);
        x.engine(0, 0);
        spare(x, 0, 6, 10);
        x.run(3, 1, 1, 4);
        due("another one at the same shed", x.help(1, 3), 3);
        due("not known", x.help(1, 2), -2);
        EngineShed z = Bounds.sheds(3);
        spare(z, 1, 6, 10);
        z.run(1, 0, 1, 4);
        z.fails(0, 4, 6);
        due("a run told as the first fact of all", z.help(1, 2), 1);
        EngineShed y = trouble(7);
        y.fails(1, 4, 7);
        due("it helps, though it fails itself", y.help(0, 3), 1);
        due("for it there is none", y.help(2, 3), -2);
    }

    private static void helpLeast() {
        holds(26, "the one whose WAY from there to where the FAILED one stands is least (then the least)");
        int[][] ways = {{1, 1, 1}, {1, 2, 1}, {2, 1, 2}, {0, 9, 1}, {9, 0, 2}, {9, 9, 1}, {0, 0, 1}, {8, 9, 1}, {9, 8, 2}};
        for (int[] w : ways) {
            for (boolean lateFirst : new boolean[] {false, true}) {
                EngineShed x = Bounds.sheds(3);
                x.way(0, 1, w[0]);
                x.way(2, 0, w[1]);
                x.way(1, 2, 0);
                spare(x, 1, 0, 9);
                spare(x, 2, 0, 9);
                x.fails(0, 0, 4);
                for (int i = 0; i < 2; i++) {
                    int e = lateFirst ? 2 - i : 1 + i;
                    x.run(e, e - 1, e, 0);
                }
                due("ways " + w[0] + " and " + w[1] + (lateFirst ? ", 2 told first" : ""), x.help(0, 3), w[2]);
            }
        }
        // The spare turn's shed counts, wherever its engine goes then.
        EngineShed y = Bounds.sheds(3);
        y.way(0, 1, 5);
        y.way(0, 2, 6);
        spare(y, 1, 0, 9);
        spare(y, 2, 0, 9);
        y.fails(0, 0, 4);
        y.run(1, 0, 1, 0);
        y.run(2, 1, 2, 0);
        y.lent(2, 0, 0);
        due("one that is lent to the shed behind its run", y.help(0, 4), 1);
        // The 9th engine of as many as there can be.
        EngineShed z = Bounds.sheds(5);
        for (int i = 5; i < 9; i++) z.engine(5, 4);
        spare(z, 4, 23, 24);
        z.fails(3, 119, 23);
        z.run(8, 0, 0, 119);
        due("the last engine on the last day at the last hour", z.help(0, 2), 8);
    }

    private static void helpPlace() {
        holds(26, "to where the FAILED one stands");
        // It fails on a run from 1 to 2, and stands at 1.
        EngineShed x = Bounds.sheds(5);
        turn(x, 1, 2, 6, 10, 50);
        spare(x, 3, 0, 10);
        spare(x, 4, 0, 10);
        x.way(3, 1, 2);
        x.way(4, 1, 3);
        x.way(3, 2, 9);
        x.way(4, 2, 1);
        x.run(1, 0, 1, 0);
        x.fails(1, 0, 8);
        x.run(3, 1, 3, 0);
        x.run(4, 2, 4, 0);
        due("where it began", x.help(1, 4), 3);
        EngineShed y = Bounds.sheds(5);
        spare(y, 3, 0, 10);
        spare(y, 4, 0, 10);
        y.way(3, 1, 2);
        y.way(4, 1, 3);
        y.way(3, 2, 9);
        y.way(4, 2, 1);
        y.lent(1, 2, 0);
        y.fails(1, 0, 8);
        y.run(3, 0, 3, 0);
        y.run(4, 1, 4, 0);
        due("lent to 2", y.help(1, 4), 4);
        due("the loan comes ahead", y.help(1, 4), 4);
    }

    // ---- coal

    private static void coalOutside() {
        holds(27, "-1000000: no such ones.");
        int[][] yes = {{0, 0, 12, 0}, {0, 1, 12, 500}, {0, 119, 12, 492}, {2, 119, 0, 0}, {0, 119, 9, 0}, {0, 119, 10, 500}};
        for (int[] a : yes) due("coal" + Arrays.toString(a), Bounds.yard().coal(a[0], a[1], a[2]), a[3]);
        int[][] no = {{-1, 0, 12}, {3, 0, 12}, {MIN, 0, 12}, {MAX, 0, 12}, {0, -1, 12}, {0, 120, 12}, {0, MIN, 12}, {0, MAX, 12},
            {0, 0, -1}, {0, 0, 13}, {0, 0, MIN}, {0, 0, MAX}};
        for (int[] a : no) Bounds.refused(Bounds::yard, "coal" + Arrays.toString(a), OUTSIDE, x -> x.coal(a[0], a[1], a[2]));
        EngineShed x = Bounds.fullYard();
        due("the 5th shed by all 180", x.coal(4, 119, 180), 0);
        due("a 6th", x.coal(5, 119, 180), OUTSIDE);
        due("by 181", x.coal(4, 119, 181), OUTSIDE);
    }

    private static void coalDays() {
        holds(27, "COAL of a SHED: tons told (COALS), less those of all RUNS that HOLD from there up to a DAY");
        EngineShed x = Bounds.sheds(2);
        Bounds.read(x, "coal c 10;");
        turn(x, 0, 0, 1, 2, 5);
        x.coals(0, 5, 9999);
        x.coals(0, 5, 0);
        x.coals(0, 7, 1);
        x.coals(1, 0, 30);
        x.run(0, 0, 0, 4);
        x.run(0, 0, 0, 6);
        x.run(0, 0, 0, 119);
        int[] days = {0, 3, 4, 5, 6, 7, 118, 119};
        int[] tons = {0, 0, -10, 9989, 9979, 9980, 9980, 9970};
        for (int i = 0; i < days.length; i++) {
            due("behind day " + days[i], x.coal(0, days[i], 7), tons[i]);
            due("the other shed's", x.coal(1, days[i], 7), 30);
        }
        int[] byN = {0, 9999, 9999, 10000, 10000, 9990, 9980, 9970};
        for (int n = 0; n <= 7; n++) due("by " + n, x.coal(0, 119, n), byN[n]);
        holds(27, "(it may be below 0)");
        EngineShed y = Bounds.sheds(1);
        Bounds.read(y, "coal c 1000;");
        turn(y, 0, 0, 1, 2, 5);
        for (int i = 0; i < 120; i++) y.run(0, 0, 0, i);
        due("120 times 999 below 0", y.coal(0, 119, 120), -119880);
        due("one of them", y.coal(0, 0, 120), -999);
        EngineShed z = Bounds.sheds(1);
        for (int i = 0; i < 180; i++) z.coals(0, i % 120, 9999);
        due("180 times 9999", z.coal(0, 119, 180), 1799820);
        due("two on the first day", z.coal(0, 0, 180), 19998);
    }

    private static void coalRuns() {
        holds(27, "less those of all RUNS that HOLD from there");
        EngineShed x = Bounds.sheds(3);
        Bounds.read(x, "coal c 10 + far;");
        turn(x, 0, 1, 1, 2, 5);
        turn(x, 1, 2, 3, 4, 7);
        x.run(0, 0, 0, 0);
        x.run(0, 1, 0, 0);
        due("from 0", x.coal(0, 0, 2), -15);
        due("from 1, to 1", x.coal(1, 0, 2), -17);
        due("to 2", x.coal(2, 0, 2), 0);
        x.run(0, 0, 0, 0);
        due("a void one", x.coal(0, 0, 3), -15);
        x.fails(0, 0, 3);
        due("one that failed burned it all", x.coal(1, 0, 4), -17);
        x.mile(0, 400);
        due("a mile is no matter", x.coal(0, 0, 5), -15);
        EngineShed y = Bounds.sheds(1);
        Bounds.read(y, "coal c 10;");
        spare(y, 0, 1, 2);
        y.run(0, 0, 0, 0);
        due("a spare one burns, too", y.coal(0, 0, 1), -10);
        EngineShed z = Bounds.sheds(1);
        spare(z, 0, 1, 2);
        z.run(0, 0, 0, 0);
        due("without rules", z.coal(0, 0, 1), 0);
    }

    // ---- owes

    private static void owesOutside() {
        holds(28, "-1000000: no such ones, one and the same.");
        int[][] yes = {{2, 0, 1, 119, 12, 1}, {2, 0, NONE, 2, 12, 1}, {0, 2, 1, 2, 12, -1}, {2, 0, 0, 2, 12, 0}, {2, 0, 5, 2, 12, 0}, {0, 1, NONE, 0, 0, 0}};
        for (int[] a : yes) due("owes" + Arrays.toString(a), Bounds.yard().owes(a[0], a[1], a[2], a[3], a[4]), a[5]);
        int[][] no = {{0, 0, NONE, 0, 12}, {2, 2, 1, 2, 12}, {-1, 0, NONE, 0, 12}, {0, -1, NONE, 0, 12}, {3, 0, NONE, 0, 12},
            {0, 3, NONE, 0, 12}, {MIN, 0, NONE, 0, 12}, {0, MAX, NONE, 0, 12}, {-1, -1, NONE, 0, 12}, {3, 3, NONE, 0, 12},
            {2, 0, -2, 2, 12}, {2, 0, 6, 2, 12}, {2, 0, MIN, 2, 12}, {2, 0, MAX, 2, 12}, {2, 0, 1, -1, 12}, {2, 0, 1, 120, 12},
            {2, 0, 1, MIN, 12}, {2, 0, 1, MAX, 12}, {2, 0, 1, 2, -1}, {2, 0, 1, 2, 13}, {2, 0, 1, 2, MIN}, {2, 0, 1, 2, MAX}};
        for (int[] a : no) {
            Bounds.refused(Bounds::yard, "owes" + Arrays.toString(a), OUTSIDE, x -> x.owes(a[0], a[1], a[2], a[3], a[4]));
        }
        EngineShed x = Bounds.fullYard();
        due("the 5th shed by all 180", x.owes(4, 0, NONE, 119, 180), 0);
        due("a 6th", x.owes(5, 0, NONE, 119, 180), OUTSIDE);
        due("by 181", x.owes(4, 0, NONE, 119, 181), OUTSIDE);
    }

    private static void owesClasses() {
        holds(28, "What one SHED OWES another one of a CLASS (NONE: of all)");
        EngineShed x = new EngineShed();
        x.shed();
        x.shed();
        for (int e = 0; e < 9; e++) x.engine(e % 6, 0);
        for (int e = 0; e < 9; e++) {
            due("all, by " + e, x.owes(1, 0, NONE, 0, e), e);
            due("the other way, by " + e, x.owes(0, 1, NONE, 0, e), -e);
            x.lent(e, 1, 0);
        }
        for (int clas = 0; clas < 6; clas++) {
            due("class " + clas, x.owes(1, 0, clas, 0, 9), clas < 3 ? 2 : 1);
            due("class " + clas + ", the other way", x.owes(0, 1, clas, 0, 9), clas < 3 ? -2 : -1);
        }
        due("all 9", x.owes(1, 0, NONE, 0, 9), 9);
        due("all 9, the other way", x.owes(0, 1, NONE, 0, 9), -9);
    }

    private static void owesDays() {
        holds(28, "of a CLASS (NONE: of all) behind a DAY, as KNOWN by n");
        EngineShed x = Bounds.sheds(3);
        x.lent(0, 1, 5);
        x.lent(0, 2, 7);
        x.fact(3, 0, 9);
        int[] days = {0, 4, 5, 6, 7, 8, 9, 119};
        int[] one = {0, 0, 1, 1, 0, 0, 0, 0};
        int[] two = {0, 0, 0, 0, 1, 1, 0, 0};
        for (int i = 0; i < days.length; i++) {
            due("what 1 owes, day " + days[i], x.owes(1, 0, NONE, days[i], 3), one[i]);
            due("what 2 owes, day " + days[i], x.owes(2, 0, 0, days[i], 3), two[i]);
            due("what 2 owes 1, day " + days[i], x.owes(2, 1, NONE, days[i], 3), 0);
        }
        due("as known by 1", x.owes(1, 0, NONE, 119, 1), 1);
        due("as known by 0", x.owes(1, 0, NONE, 119, 0), 0);
        EngineShed y = Bounds.sheds(2);
        y.lent(0, 1, 5);
        y.shops(0, 6, 9);
        for (int day = 5; day <= 10; day++) due("the keeper stays in and behind the shops, day " + day, y.owes(1, 0, NONE, day, 2), 1);
    }

    private static void owesBoth() {
        holds(28, "as many as it keeps (it is KEEPER) whose HOME is that other, less those that the other keeps whose HOME is this");
        EngineShed x = new EngineShed();
        for (int i = 0; i < 3; i++) x.shed();
        for (int e = 0; e < 9; e++) x.engine(0, e % 3);
        x.lent(0, 1, 0);
        x.lent(3, 1, 0);
        x.lent(1, 0, 0);
        x.lent(2, 0, 0);
        x.lent(6, 2, 0);
        due("1 to 0: two less one", x.owes(1, 0, NONE, 0, 5), 1);
        due("0 to 1", x.owes(0, 1, NONE, 0, 5), -1);
        due("0 to 2: one less one", x.owes(0, 2, NONE, 0, 5), 0);
        due("1 to 2: none of it", x.owes(1, 2, NONE, 0, 5), 0);
        due("0 to 2, by 4", x.owes(0, 2, NONE, 0, 4), 1);
        // Where it stands is no matter.
        EngineShed y = Bounds.sheds(2);
        turn(y, 0, 1, 1, 2, 5);
        y.run(0, 0, 0, 0);
        due("it stands at 1, 0 keeps it", y.owes(1, 0, NONE, 0, 1), 0);
        y.lent(0, 1, 1);
        y.shops(0, 1, 2);
        due("it stands at 0, 1 keeps it", y.owes(1, 0, NONE, 2, 3), 1);
    }

    // ---- turned

    private static void turnedOutside() {
        holds(41, "NONE: none, no such ones.");
        EngineShed x = changed();
        due("turned(2, 3)", x.turned(2, 3), 1);
        due("turned(3, 2)", x.turned(3, 2), 1);
        int[][] none = {{0, 0}, {3, 3}, {0, 3}, {3, 0}, {1, 3}, {3, 1}, {1, 2}, {2, 2}};
        for (int[] a : none) due("turned" + Arrays.toString(a), x.turned(a[0], a[1]), NONE);
        int[][] no = {{-1, 12}, {12, -1}, {13, 12}, {12, 13}, {MIN, 12}, {12, MAX}, {MAX, MIN}, {13, 13}, {-1, -1}};
        for (int[] a : no) Bounds.refused(Bounds::yard, "turned" + Arrays.toString(a), NONE, y -> y.turned(a[0], a[1]));
        int[][] off = {{4, 2}, {2, 4}, {-1, 3}, {3, -1}, {MAX, 2}, {MIN, 2}};
        for (int[] a : off) due("turned" + Arrays.toString(a), x.turned(a[0], a[1]), NONE);
        EngineShed full = Bounds.fullYard();
        due("by all 180", full.turned(180, 180), NONE);
        due("by 181", full.turned(181, 180), NONE);
    }

    /** Run 0 of day 5 and run 1 of day 4 hold by 2; the shops of days 3 and 4, told as the third, make run 1 void. */
    private static EngineShed changed() {
        EngineShed x = Bounds.sheds(2);
        turn(x, 0, 0, 1, 2, 5);
        x.run(0, 0, 0, 5);
        x.run(0, 0, 0, 4);
        x.shops(0, 3, 5);
        return x;
    }

    private static void turnedRuns() {
        holds(41, "The first RUN among those KNOWN by both that HOLDS as KNOWN by one of n, m and not by the other");
        EngineShed x = changed();
        due("by 2 run 0", x.isVoid(0, 2), 0);
        due("by 3 run 0", x.isVoid(0, 3), 0);
        due("by 2 run 1", x.isVoid(1, 2), 0);
        due("by 3 run 1", x.isVoid(1, 3), 1);
        due("the first by its number", x.turned(2, 3), 1);
        x.fails(0, 0, 0);
        due("of two the first by its number, not by its day", x.turned(2, 4), 0);
        due("from 3 to 4", x.turned(3, 4), 0);
        // One that holds no longer, and one that holds then.
        EngineShed y = Bounds.sheds(2);
        turn(y, 1, 0, 1, 2, 5);
        turn(y, 0, 0, 1, 2, 5);
        y.run(0, 0, 0, 5);
        due("void at first", y.isVoid(0, 1), 2);
        y.lent(0, 1, 4);
        due("it holds then", y.isVoid(0, 2), 0);
        due("turned(1, 2)", y.turned(1, 2), 0);
        due("turned(2, 1)", y.turned(2, 1), 0);
        y.fact(0, 0, 5);
        due("a wash behind it turns none", y.turned(2, 3), NONE);
        // Another reason is no matter.
        EngineShed z = Bounds.sheds(2);
        turn(z, 1, 0, 1, 2, 5);
        z.run(0, 0, 0, 5);
        z.fails(0, 5, 0);
        z.fails(0, 4, 0);
        due("void by 2", z.isVoid(0, 1), 2);
        due("void by 1", z.isVoid(0, 3), 1);
        due("void both", z.turned(1, 3), NONE);
    }

    private static void turnedByLater() {
        holds(41, "among those KNOWN by both");
        EngineShed x = Bounds.sheds(2);
        turn(x, 0, 0, 1, 2, 5);
        x.fails(0, 9, 0);
        for (int i = 0; i < 5; i++) x.run(0, 0, 0, i);
        due("runs that one knows are none", x.turned(1, 6), NONE);
        x.fails(0, 4, 0);
        due("told behind its run of the day: none", x.turned(6, 7), NONE);
        x.fails(0, 2, 0);
        due("the runs of days 3 and 4", x.turned(6, 8), 4);
        due("of those that both know", x.turned(5, 8), 4);
        due("none of those that both know", x.turned(4, 8), NONE);
        // The 180th fact turns the 179th.
        EngineShed y = Bounds.sheds(2);
        turn(y, 0, 0, 1, 2, 5);
        for (int i = 0; i < 178; i++) y.fact(1, 1, i % 120);
        y.run(0, 0, 0, 119);
        y.fails(0, 118, 23);
        due("178 and 179 are the last", y.turned(179, 180), 178);
        due("not known by both", y.turned(178, 180), NONE);
    }

    // ---- asking

    private static final Bounds.Call[] QUESTIONS = {x -> x.state(2, 2, 12, 6), x -> x.state(2, 1, 12, 6), x -> x.state(1, 2, 12, 6),
        x -> x.state(1, 1, 12, 0), x -> x.state(2, 5, 12, 1), x -> x.state(2, 4, 12, 1), x -> x.state(2, 3, 8, 1), x -> x.state(2, 3, 7, 1),
        x -> x.state(0, 1, 12, 1), x -> x.state(0, 0, 12, 2), x -> x.state(0, 119, 12, 2), x -> x.state(0, 0, 1, 2), x -> x.state(0, 3, 12, 2),
        x -> x.state(0, 4, 12, 2), x -> x.due(0, 4, 12), x -> x.due(0, 3, 12), x -> x.due(0, 5, 12), x -> x.due(0, 0, 12), x -> x.due(0, 1, 12),
        x -> x.isVoid(4, 12), x -> x.isVoid(10, 12), x -> x.held(0, 12, 0), x -> x.held(0, 2, 0), x -> x.held(10, 12, 4), x -> x.held(10, 11, 2),
        x -> x.bar(4, 12), x -> x.beyond(0, 119, 12), x -> x.help(5, 12), x -> x.coal(0, 1, 12), x -> x.coal(0, 119, 10), x -> x.owes(2, 0, 1, 2, 12),
        x -> x.owes(2, 0, 1, 1, 12), x -> x.causes(12), x -> x.causes(5), x -> x.cause(12, 1), x -> x.turned(12, 1), x -> x.turned(6, 3),
        x -> x.rules(1), x -> x.rules(2), x -> x.rule(1, 2, 0), x -> x.rule(2, 3, 0), x -> x.best(1, 1, 12), x -> x.best(2, 1, 12), x -> x.best(4, 2, 12),
        x -> x.best(0, 3, 12), x -> x.best(5, 2, 12)};

    /** Each question behind each other one, on one board, answers as on a new one. */
    private static void askingChangesNothing() {
        holds(20, "Nothing is promised beyond the answers and state changes described above");
        int[] want = new int[QUESTIONS.length];
        for (int i = 0; i < want.length; i++) want[i] = QUESTIONS[i].on(Bounds.yard());
        EngineShed x = Bounds.yard();
        for (int i = 0; i < want.length; i++) {
            for (int j = 0; j < want.length; j++) {
                due("question " + i + " ahead of " + j, QUESTIONS[i].on(x), want[i]);
                due("question " + j + " behind " + i, QUESTIONS[j].on(x), want[j]);
            }
        }
        // Of the first days, and with what is asked of mornings: shops that end on day 1, a wash on day 1.
        Bounds.Call[] first = {y -> y.state(0, 0, 2, 1), y -> y.state(0, 1, 2, 1), y -> y.due(1, 1, 2), y -> y.due(1, 0, 2), y -> y.due(1, 2, 2),
            y -> y.state(1, 1, 2, 4), y -> y.best(1, 1, 2), y -> y.best(0, 1, 2), y -> y.causes(2), y -> y.due(1, 1, 0), y -> y.due(1, 1, 1),
            y -> y.state(0, 0, 1, 1), y -> y.state(0, 119, 2, 4), y -> y.state(0, 118, 2, 4)};
        int[] due = new int[first.length];
        for (int i = 0; i < due.length; i++) due[i] = first[i].on(firstDays());
        EngineShed y = firstDays();
        for (int i = 0; i < due.length; i++) {
            for (int j = 0; j < due.length; j++) {
                due("of the first days: " + i + " ahead of " + j, first[i].on(y), due[i]);
                due("of the first days: " + j + " behind " + i, first[j].on(y), due[j]);
            }
        }
        // What comes between two questions counts.
        EngineShed z = Bounds.sheds(2);
        turn(z, 0, 0, 1, 2, 5);
        z.run(0, 0, 0, 5);
        due("no rules", z.held(0, 1, 1), 0);
        Bounds.read(z, "from 5; wear w 7;");
        due("a text that came", z.held(0, 1, 1), 7);
        due("its rules", z.rules(5), 1);
        Bounds.read(z, "wear v 6;");
        due("one of a day ahead", z.held(0, 1, 1), 6);
        due("it is the first", z.rule(5, 0, 1), 1);
        due("on day 4 it alone", z.rule(4, 0, 1), 1);
        due("an engine that came", z.engine(0, 1), 2);
        due("it is where it is", z.state(2, 5, 1, 0), 1);
        EngineShed w = new EngineShed();
        Bounds.read(w, "from 5; wear w 7;");
        due("rules on day 5", w.rules(5), 1);
        Bounds.read(w, "from 3; coal c 7;");
        due("on day 3 one, too", w.rule(3, 0, 0), 3);
    }

    private static EngineShed firstDays() {
        EngineShed x = Bounds.sheds(2);
        Bounds.read(x, "due d if 1 <= days; price p 100 * days + 1;");
        turn(x, 0, 0, 1, 2, 5);
        x.shops(0, 0, 1);
        x.fact(0, 1, 1);
        return x;
    }
}
