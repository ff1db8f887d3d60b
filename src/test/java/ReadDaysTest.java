import java.util.ArrayList;
import java.util.List;
import java.util.Random;

/** Of the document's part III: sentences that a reading from its first line found without a test of their own. */
public final class ReadDaysTest {
    private static final int NONE = Bounds.NONE;

    public static void main(String[] args) {
        asKnown();
        stepped();
        asked();
        inTurn();
        inTurnOfNumbers();
        shops();
        failsStands();
        reasons();
        more();
        coalRules();
        coalHeld();
        helps();
        sheds();
        life();
        why();
        heldValues();
        bars();
        helpKnown();
        coalDays();
        Bounds.finish();
    }

    private static void holds(int promise, String words) {
        Bounds.holds(promise, words);
    }

    private static void due(String call, int got, int want) {
        Bounds.due(call, got, want);
    }

    private static int read(EngineShed x, String s) {
        return Bounds.read(x, s);
    }

    // ---- known when

    /** A board of three sheds, with rules of all sorts, and no facts yet. */
    private static EngineShed ruled() {
        EngineShed x = new EngineShed();
        for (int i = 0; i < 3; i++) x.shed();
        x.way(0, 1, 4);
        for (int i = 0; i < 5; i++) x.engine(i % 3, i % 3);
        for (int i = 0; i < 3; i++) x.man(i == 1 ? 15 : 255);
        for (int i = 0; i < 8; i++) x.turn(i % 3, i * 2 % 3, 2 * i, 2 * i + 3 + i % 2, 30 * i, 9 * i, i % 5, i % 4 == 3);
        read(x, "bar a if load == 18 and class == 2; due b if 2 < days; wear c miles / 10 + 1; coal d hours; price e miles + class;");
        read(x, "from 3; bar f if 60 < worn; wear c 9; price e class * 3 + load;");
        return x;
    }

    private static void tell(EngineShed x, int[] f) {
        switch (f[0]) {
            case 0: x.run(f[1], f[3], f[4], f[2]); break;
            case 1: x.fails(f[1], f[2], f[5]); break;
            case 2: x.shops(f[1], f[2], f[2] + f[4]); break;
            case 3: x.lent(f[1], f[4], f[2]); break;
            case 4: x.coals(f[4], f[2], f[5]); break;
            case 5: x.mile(f[3], 11 * f[5]); break;
            default: x.fact(f[0] - 6, f[1], f[2]); break;
        }
    }

    private static int[] someFact(Random r, int many) {
        int kind = r.nextInt(3) > 0 ? 0 : r.nextInt(10);
        return new int[] {kind, r.nextInt(5), r.nextInt(5), kind == 5 ? r.nextInt(many + 1) : r.nextInt(8), r.nextInt(3), r.nextInt(24)};
    }

    private static List<Integer> answers(EngineShed x, int n) {
        List<Integer> told = new ArrayList<>();
        for (int day = 0; day < 7; day++) {
            for (int e = 0; e < 5; e++) {
                for (int what = 0; what < 7; what++) told.add(x.state(e, day, n, what));
                told.add(x.due(e, day, n));
            }
            for (int s = 0; s < 3; s++) {
                told.add(x.coal(s, day, n));
                told.add(x.owes(s, (s + 1) % 3, NONE, day, n));
            }
            told.add(x.beyond(0, day, n));
            told.add(x.best(day, 0b1011, n));
            for (int t = 0; t < 4; t++) told.add(x.given(t));
            told.add(x.lack());
        }
        for (int f = 0; f < n; f++) {
            told.add(x.isVoid(f, n));
            for (int what = 0; what < 5; what++) told.add(x.held(f, n, what));
            told.add(x.bar(f, n));
            told.add(x.help(f, n));
        }
        told.add(x.causes(n));
        for (int i = 0; i < 4; i++) told.add(x.cause(n, i));
        for (int m = 0; m <= n; m++) told.add(x.turned(n, m));
        return told;
    }

    private static void asKnown() {
        holds(20, "and all of it as known when.");
        for (int seed = 0; seed < 25; seed++) {
            Random r = new Random(seed);
            EngineShed all = ruled();
            List<int[]> facts = new ArrayList<>();
            while (all.count(4) < 24) {
                int[] f = someFact(r, facts.size());
                int before = all.count(4);
                tell(all, f);
                if (all.count(4) > before) facts.add(f);
            }
            for (int n = 24; n >= 0; n -= 1 + r.nextInt(4)) {
                EngineShed some = ruled();
                for (int i = 0; i < n; i++) tell(some, facts.get(i));
                List<Integer> want = answers(some, n);
                List<Integer> got = answers(all, n);
                due("answers of seed " + seed + " by " + n, got.equals(want) ? want.size() : 0, want.size());
            }
        }
    }

    // ---- engines day by day

    private static int[] states(EngineShed x, int engine, int day, int n) {
        int[] got = new int[7];
        for (int what = 0; what < 7; what++) got[what] = x.state(engine, day, n, what);
        return got;
    }

    private static void stands(EngineShed x, int day, int n, int... want) {
        int[] got = states(x, 0, day, n);
        for (int what = 0; what < 7; what++) due("state(0, " + day + ", " + n + ", " + what + ")", got[what], want[what]);
    }

    /** Shed, condition, miles, wear, days, looked, keeper behind days 0 .. 13 of one engine's life. */
    private static final int[][] LIFE = {{0, 0, 0, 0, 0, 0, 0}, {1, 0, 100, 7, 1, 1, 0}, {1, 0, 100, 7, 2, 0, 0}, {2, 0, 100, 7, 3, 1, 2},
        {2, 2, 100, 7, 4, 2, 2}, {2, 2, 100, 7, 5, 3, 2}, {2, 0, 100, 7, 6, 4, 2}, {2, 0, 0, 7, 0, 5, 2}, {NONE, 1, 0, 7, 1, 6, 2},
        {NONE, 1, 0, 7, 2, 7, 2}, {0, 0, 0, 0, 0, 0, 2}, {0, 0, 0, 0, 1, 1, 0}, {0, 2, 50, 7, 2, 2, 0}, {0, 2, 50, 7, 3, 3, 0}};

    private static EngineShed lived() {
        EngineShed x = Bounds.sheds(3);
        x.turn(0, 1, 6, 10, 100, 50, 0, false);
        read(x, "wear w 7;");
        x.run(0, 0, 0, 1);
        x.fact(1, 0, 2);
        x.lent(0, 2, 3);
        x.fails(0, 4, 3);
        x.fact(2, 0, 6);
        x.fact(0, 0, 7);
        x.shops(0, 8, 10);
        x.fact(3, 0, 11);
        x.run(0, 0, 0, 12);
        x.fails(0, 12, 7);
        return x;
    }

    private static void stepped() {
        holds(20, "engines stepped day by day by runs, washing, looks, shops, failures and loans");
        EngineShed x = lived();
        for (int day = 0; day < LIFE.length; day++) stands(x, day, 10, LIFE[day]);
        stands(x, 119, 10, 0, 2, 50, 7, 109, 109, 0);
    }

    private static void life() {
        holds(20, "Of an ENGINE behind all FACTS of a DAY, as KNOWN by n: what 0: the SHED at which it stands (NONE: in the SHOPS), "
            + "1: 0 sound, 1 in the SHOPS, 2 FAILED, 2: MILES, 3: WEAR, 4: DAYS since it was washed, 5: since it was looked at, 6: its KEEPER.");
        EngineShed x = lived();
        int[] days = {1, 2, 3, 4, 6, 7, 8, 11, 12, 12};
        for (int n = 0; n <= 10; n++) {
            int known = n < 10 ? days[n] : LIFE.length;
            // What is known by n tells of all days ahead of the first one that isn't.
            for (int day = 0; day < known; day++) stands(x, day, n, LIFE[day]);
        }
        stands(x, 12, 9, 1, 0, 100, 7, 2, 2, 0);
        stands(x, 119, 7, 0, 0, 0, 0, 109, 109, 2);
        stands(x, 119, 6, 2, 0, 0, 7, 112, 117, 2);
        stands(x, 119, 0, 0, 0, 0, 0, 119, 119, 0);
        stands(x, 12, 4, 2, 2, 100, 7, 12, 10, 2);
    }

    private static void asked() {
        holds(26, "why a run can't be, which ran beyond what was due, who comes to help, coal by sheds, what sheds owe one another");
        EngineShed x = Bounds.yard();
        int n = x.count(4);
        due("engine 0 runs", x.isVoid(0, n), 0);
        due("and back", x.isVoid(1, n), 0);
        due("the spare one", x.isVoid(3, n), 0);
        due("by a load of 99", x.isVoid(4, n), 4);
        due("by the first rule", x.bar(4, n), 0);
        due("mended, it runs on day 3", x.isVoid(10, n), 0);
        due("ahead of it 77 and 61", x.held(10, n, 4), 138);
        due("none beyond 150", x.beyond(0, 119, n), 0);
        x.mile(1, 73);
        due("77 and 73 are due", x.due(0, 3, n + 1), 1);
        due("one beyond", x.beyond(0, 119, n + 1), 1);
        due("that one", x.held(10, n + 1, 3), 1);
        due("help for 0 at 7", x.help(5, n), 1);
        due("coal told", x.coal(0, 119, n), 500 - 8);
        due("ahead of it", x.coal(0, 0, n), 0);
        due("shed 2 keeps 1 of shed 0", x.owes(2, 0, 1, 2, n), 1);
        due("not on day 1", x.owes(2, 0, 1, 1, n), 0);
    }

    // ---- facts in turn

    private static EngineShed pair(String... order) {
        EngineShed x = Bounds.sheds(2);
        x.turn(0, 1, 6, 10, 101, 0, 0, false);
        for (String f : order) {
            switch (f) {
                case "run": x.run(0, 0, 0, 5); break;
                case "wash": x.fact(0, 0, 5); break;
                case "look": x.fact(1, 0, 5); break;
                case "mended": x.fact(2, 0, 5); break;
                case "home": x.fact(3, 0, 5); break;
                case "fails": x.fails(0, 5, 7); break;
                case "lent": x.lent(0, 1, 5); break;
                default: x.shops(0, 5, 8); break;
            }
        }
        return x;
    }

    private static void behind(int at, int how, int miles, int days, int looked, int keeper, String... order) {
        EngineShed x = pair(order);
        stands(x, 5, order.length, at, how, miles, 0, days, looked, keeper);
    }

    private static void inTurn() {
        holds(20, "FACTS of it, those of a DAY in turn:");
        behind(1, 0, 101, 5, 5, 0, "run", "wash");
        behind(0, 0, 0, 0, 5, 0, "wash", "run");
        behind(1, 0, 101, 5, 0, 0, "run", "look");
        behind(0, 2, 0, 5, 5, 0, "fails", "look");
        behind(0, 2, 0, 5, 0, 0, "look", "fails");
        behind(0, 2, 50, 5, 5, 0, "run", "fails");
        behind(0, 2, 0, 5, 5, 0, "fails", "run");
        behind(0, 0, 0, 5, 5, 0, "fails", "mended");
        behind(0, 2, 0, 5, 5, 0, "mended", "fails");
        behind(1, 0, 101, 5, 5, 0, "fails", "mended", "run");
        behind(1, 0, 101, 5, 5, 1, "run", "lent");
        behind(1, 0, 0, 5, 5, 1, "lent", "run");
        behind(0, 0, 0, 5, 5, 0, "lent", "home");
        behind(1, 0, 101, 5, 5, 0, "lent", "home", "run");
        behind(1, 0, 0, 5, 5, 1, "home", "lent");
        behind(1, 0, 101, 5, 5, 0, "run", "home");
        behind(0, 2, 0, 5, 5, 0, "fails", "lent");
        behind(1, 2, 0, 5, 5, 1, "lent", "fails");
        behind(NONE, 1, 0, 5, 5, 0, "shops", "fails");
        behind(0, 2, 0, 5, 5, 0, "fails", "shops");
        behind(NONE, 1, 0, 0, 5, 0, "wash", "shops");
        behind(NONE, 1, 0, 5, 5, 0, "shops", "wash");
        behind(1, 0, 101, 5, 5, 0, "run", "shops");
        behind(NONE, 1, 0, 5, 5, 0, "shops", "run");
        behind(NONE, 1, 0, 5, 5, 1, "lent", "shops");
        behind(NONE, 1, 0, 5, 5, 0, "shops", "lent");
        behind(0, 0, 50, 5, 0, 0, "run", "fails", "mended", "look", "wash", "shops");
    }

    /** Those of a day count by their numbers, whatever was told of other days between them. */
    private static void inTurnOfNumbers() {
        holds(20, "they hold DAY by DAY, those of one DAY by numbers");
        EngineShed x = Bounds.sheds(2);
        x.turn(0, 1, 6, 10, 101, 0, 0, false);
        x.turn(1, 0, 10, 14, 60, 0, 0, false);
        x.fact(0, 0, 9);
        x.run(0, 1, 0, 5);
        x.fact(1, 0, 1);
        x.run(0, 0, 0, 5);
        x.fact(1, 0, 7);
        x.run(0, 1, 0, 5);
        x.lent(1, 0, 4);
        due("1 from 1, ahead of 0", x.isVoid(1, 7), 2);
        due("0", x.isVoid(3, 7), 0);
        due("1 behind 0", x.isVoid(5, 7), 0);
        int[] one = {161, 161, 161, 161, 0};
        for (int day = 5; day <= 9; day++) due("miles on " + day, x.state(0, day, 7, 2), one[day - 5]);
        int[] looked = {0, 0, 1, 2, 3, 4, 5, 0, 1, 2};
        for (int day = 0; day <= 9; day++) due("looked on " + day, x.state(0, day, 7, 5), looked[day]);
    }

    private static void shops() {
        holds(20, "SHOPS until a DAY: if it is sound and has not run on this DAY: it is in the SHOPS from this DAY on up to that DAY (not with it), "
            + "then in its HOME's SHED (its KEEPER stays), MILES, WEAR 0, washed and looked at on that DAY "
            + "(FACTS of it between do nothing; a DAY not behind this one: nothing).");
        for (int from = 3; from < 20; from += 4) {
            for (int until = from - 2; until < from + 5; until++) {
                EngineShed x = Bounds.sheds(2);
                x.turn(1, 1, 6, 10, 101, 0, 0, false);
                read(x, "wear w 7;");
                x.lent(0, 1, 1);
                x.run(0, 0, 0, 1);
                int f = x.shops(0, from, until);
                for (int day = from + 1; day < until; day++) {
                    x.fact(1, 0, day);
                    x.fact(0, 0, day);
                    x.run(0, 0, 0, day);
                    x.fails(0, day, 0);
                    x.fact(2, 0, day);
                    x.lent(0, 0, day);
                    x.shops(0, day, 119);
                }
                int n = x.count(4);
                for (int day = from - 1; day < from + 7; day++) {
                    boolean in = from <= day && day < until;
                    boolean out = from < until && until <= day;
                    if (in) stands(x, day, n, NONE, 1, 101, 7, day, day, 1);
                    else if (out) stands(x, day, n, 0, 0, 0, 0, day - until, day - until, 1);
                    else stands(x, day, n, 1, 0, 101, 7, day, day, 1);
                }
                due("known ahead of it", x.state(0, 119, f, 0), 1);
            }
        }
    }

    private static void failsStands() {
        holds(20, "of its last RUN of this DAY that HOLDS half the MILES (rounded down; once) count, and it stands at the SHED from which that began.");
        for (int from = 0; from < 3; from++) {
            for (int to = 0; to < 3; to++) {
                EngineShed x = Bounds.sheds(3);
                x.turn(from, to, 6, 10, 101, 0, 0, false);
                x.turn(to, to, 10, 12, 33, 0, 0, false);
                int e = from;
                x.run(e, 0, 0, 2);
                x.fails(e, 2, 23);
                due("at its from", x.state(e, 2, 2, 0), from);
                due("half of 101", x.held(0, 2, 0), 50);
                due("in all", x.state(e, 2, 2, 2), 50);
                EngineShed y = Bounds.sheds(3);
                y.turn(from, to, 6, 10, 101, 0, 0, false);
                y.turn(to, to, 10, 12, 33, 0, 0, false);
                y.run(e, 0, 0, 2);
                y.run(e, 1, 1, 2);
                y.run(e, 0, 1, 2);
                y.fails(e, 2, 0);
                due("the last that holds", y.isVoid(2, 4), to == from ? 3 : 2);
                due("at its from", y.state(e, 2, 4, 0), to);
                due("the first one's miles", y.held(0, 4, 0), 101);
                due("half of 33", y.held(1, 4, 0), 16);
                due("in all", y.state(e, 2, 4, 2), 117);
                EngineShed z = Bounds.sheds(3);
                z.turn(from, to, 6, 10, 101, 0, 0, false);
                z.run(e, 0, 0, 2);
                z.fails(e, 3, 0);
                due("not of another day", z.state(e, 3, 2, 0), to);
                due("all its miles", z.state(e, 3, 2, 2), 101);
            }
        }
    }

    // ---- runs

    /** All sets of the seven reasons: the run of engine 0 on turn 0 on day 3 is void by the least of them. */
    private static void reasons() {
        holds(21, "A RUN of an ENGINE and a MAN on a TURN is VOID, the least reason counts:");
        for (int set = 0; set < 128; set++) {
            EngineShed x = new EngineShed();
            x.shed();
            x.shed();
            for (int i = 0; i < 3; i++) x.engine(i, 0);
            for (int lines : new int[] {255, 253, 255, 255}) x.man(lines);
            x.turn(0, 0, 10, 14, 10, 50, 1, false);
            x.turn(0, 0, 8, 11, 0, 0, 0, true);
            x.turn(0, 0, 12, 13, 0, 0, 0, true);
            int man = (set & 32) != 0 ? 1 : 0;
            if ((set & 4) != 0) x.run(0, 1, 2, 3);
            if ((set & 8) != 0) read(x, "bar b if load == 50 and class == 0;");
            if ((set & 16) != 0) x.run(1, 2, man, 3);
            if ((set & 64) != 0) x.run(2, 0, 3, 3);
            if ((set & 2) != 0) x.lent(0, 1, 3);
            if ((set & 1) != 0) x.fails(0, 3, 5);
            int f = x.run(0, 0, man, 3);
            for (int i = 0; i < f; i++) due("what is ahead holds", x.isVoid(i, f + 1) <= 0 ? 1 : 0, 1);
            due("reasons " + Integer.toBinaryString(set), x.isVoid(f, f + 1), set == 0 ? 0 : Integer.numberOfTrailingZeros(set) + 1);
            due("the bar", x.bar(f, f + 1), (set & 15) == 8 ? 0 : NONE);
            due("its miles", x.held(f, f + 1, 0), set == 0 ? 10 : NONE);
            due("it stands", x.state(0, 3, f + 1, 0), (set & 2) == 0 || (set & 5) == 5 ? 0 : 1);
        }
    }

    private static void more() {
        holds(22, "Else it HOLDS: it stands at the TURN's to; its MILES, and WEAR (the E of the first wear RULE in force that holds, "
            + "worked out ahead of its MILES, held to 0 .. 999; 0 without), are more.");
        EngineShed x = Bounds.sheds(2);
        x.turn(0, 1, 6, 10, 100, 0, 0, false);
        x.turn(1, 0, 10, 14, 61, 0, 0, false);
        read(x, "wear a 1 if class == 1; wear w miles / 10 + far; wear z 5;");
        int[] turns = {0, 1, 0, 1, 0, 1};
        int[] days = {0, 0, 1, 3, 4, 4};
        for (int i = 0; i < 6; i++) x.run(0, turns[i], 0, days[i]);
        x.fact(0, 0, 2);
        // By runs: miles ahead, wear (miles / 10 + far), and all so far.
        int[] ahead = {0, 100, 161, 0, 61, 161};
        int[] wear = {100, 71, 116, 61, 106, 77};
        int[] miles = {100, 61, 100, 61, 100, 61};
        for (int i = 0; i < 6; i++) {
            due("run " + i, x.isVoid(i, 7), 0);
            due("miles of " + i, x.held(i, 7, 0), miles[i]);
            due("wear of " + i, x.held(i, 7, 1), wear[i]);
            due("ahead of " + i, x.held(i, 7, 4), ahead[i]);
        }
        int[][] behind = {{0, 161, 171}, {1, 261, 287}, {1, 0, 287}, {0, 61, 348}, {0, 222, 531}};
        for (int day = 0; day < 5; day++) {
            int[] got = {x.state(0, day, 7, 0), x.state(0, day, 7, 2), x.state(0, day, 7, 3)};
            for (int i = 0; i < 3; i++) due("behind day " + day + ", " + i, got[i], behind[day][i]);
        }
    }

    private static EngineShed coalBoard(String rules) {
        EngineShed x = new EngineShed();
        x.shed();
        x.shed();
        x.engine(0, 0);
        x.engine(1, 1);
        x.man(255);
        x.man(255);
        x.turn(0, 1, 6, 10, 100, 50, 0, false);
        x.turn(1, 0, 11, 17, 61, 20, 0, false);
        due("read of " + rules, read(x, rules), 0);
        x.coals(0, 0, 2000);
        x.coals(1, 0, 100);
        x.run(0, 0, 0, 1);
        x.run(0, 1, 0, 1);
        x.run(1, 1, 1, 2);
        x.run(1, 0, 0, 3);
        return x;
    }

    private static void burns(String rules, int... want) {
        EngineShed x = coalBoard(rules);
        int[] left = {2000, 100};
        for (int i = 0; i < 4; i++) {
            due("coal of run " + (i + 2) + " by " + rules, x.held(i + 2, 6, 2), want[i]);
            left[i == 0 || i == 3 ? 0 : 1] -= want[i];
        }
        for (int s = 0; s < 2; s++) due("coal left at " + s + " by " + rules, x.coal(s, 119, 6), left[s]);
    }

    private static void coalRules() {
        holds(27, "the E of the first coal RULE in force that holds (worked out like WEAR, ahead of that), held to 0 .. 999; 0 without.");
        burns("", 0, 0, 0, 0);
        burns("wear w 3; price p 4;", 0, 0, 0, 0);
        burns("coal c 7;", 7, 7, 7, 7);
        burns("coal c 7; coal d 8;", 7, 7, 7, 7);
        burns("coal c 7 if class == 1; coal d 8;", 8, 8, 7, 7);
        burns("coal c 7 if class == 1;", 0, 0, 7, 7);
        burns("coal c 7 if 1 / 0 == 0; coal d hours;", 4, 6, 6, 4);
        burns("from 2; coal c 7;", 0, 0, 7, 7);
    }

    private static void coalHeld() {
        holds(27, "worked out like WEAR, ahead of that");
        burns("coal c miles;", 0, 100, 0, 61);
        burns("wear w 5; coal c worn;", 0, 5, 0, 5);
        burns("coal c worn; wear w 5;", 0, 5, 0, 5);
        burns("coal c far + load + line + spare;", 150, 81, 81, 150);
        burns("coal c day * 1000 - 1;", 999, 999, 999, 999);
        burns("coal c day * 333;", 333, 333, 666, 999);
        burns("coal c 2 - day;", 1, 1, 0, 0);
        burns("coal c 0 - 1;", 0, 0, 0, 0);
        burns("coal c 5 / (day - 2);", 0, 0, 0, 5);
        burns("coal c days + looked * 10;", 11, 11, 22, 33);
    }

    // ---- help, owed, coal

    private static EngineShed helpers() {
        EngineShed x = Bounds.sheds(4);
        x.way(0, 1, 5);
        x.way(0, 2, 2);
        x.way(0, 3, 2);
        x.turn(1, 1, 4, 12, 0, 0, 0, true);
        x.turn(2, 2, 6, 10, 0, 0, 0, true);
        x.turn(3, 3, 6, 11, 0, 0, 0, true);
        x.turn(0, 0, 6, 9, 0, 0, 0, true);
        x.turn(2, 2, 12, 15, 10, 0, 0, false);
        return x;
    }

    private static void helps() {
        holds(26, "HELP for a FAILS: of other ENGINES whose RUN of a SPARE TURN HOLDS on that DAY with the hour in a .. b - 1 "
            + "the one whose WAY from there to where the FAILED one stands is least (then the least).");
        int[] at = {-2, -2, -2, -2, 1, 1, 2, 2, 2, 2, 3, 1, -2, -2, -2, -2};
        for (int hour = 0; hour < 16; hour++) {
            EngineShed x = helpers();
            for (int i = 1; i < 4; i++) x.run(i, i - 1, i, 7);
            x.run(0, 3, 0, 7);
            x.run(2, 4, 2, 7);
            int f = x.fails(0, 7, hour);
            due("help at " + hour, x.help(f, f + 1), at[hour]);
            // On another day, and for an engine that none but itself could help, there is none.
            int g = x.fact(2, 0, 8);
            int h = x.fails(0, 8, hour);
            due("on another day", x.help(h, h + 1), -2);
            due("of what is no fails", x.help(g, h + 1), NONE);
        }
    }

    private static void sheds() {
        holds(28, "A SHED OWES another one ENGINES of a CLASS: as many as it keeps (it is KEEPER) whose HOME is that other, "
            + "less those that the other keeps whose HOME is this.");
        EngineShed x = new EngineShed();
        for (int i = 0; i < 3; i++) x.shed();
        int[] classes = {0, 1, 0, 5, 1, 0, 2, 2, 0};
        int[] homes = {0, 0, 0, 1, 1, 1, 2, 2, 2};
        int[] keepers = {1, 1, 2, 0, 1, 0, 0, 2, 1};
        for (int i = 0; i < 9; i++) x.engine(classes[i], homes[i]);
        for (int i = 0; i < 9; i++) x.lent(i, keepers[i], 10 + i);
        for (int day = 9; day < 20; day++) {
            for (int one = 0; one < 3; one++) {
                for (int other = 0; other < 3; other++) {
                    if (one == other) continue;
                    int sum = 0;
                    for (int c = 0; c < 6; c++) {
                        int want = 0;
                        for (int i = 0; i < 9 && 10 + i <= day; i++) {
                            if (classes[i] != c) continue;
                            want += keepers[i] == one && homes[i] == other ? 1 : keepers[i] == other && homes[i] == one ? -1 : 0;
                        }
                        due("owes(" + one + ", " + other + ", " + c + ", " + day + ")", x.owes(one, other, c, day, 9), want);
                        sum += want;
                    }
                    due("of all classes on " + day, x.owes(one, other, NONE, day, 9), sum);
                    due("the other way", x.owes(other, one, NONE, day, 9), -sum);
                }
            }
        }
    }

    private static void why() {
        holds(21, "Why a RUN is VOID, as KNOWN by n (0: it HOLDS);");
        EngineShed x = Bounds.sheds(2);
        x.turn(0, 1, 6, 10, 101, 0, 0, false);
        x.turn(1, 0, 8, 14, 60, 0, 0, false);
        due("a run", x.run(0, 1, 0, 5), 0);
        due("from 1, but it stands at 0", x.isVoid(0, 1), 2);
        x.lent(0, 1, 4);
        due("lent there the day ahead", x.isVoid(0, 2), 0);
        due("not known yet", x.isVoid(0, 1), 2);
        x.fails(0, 4, 0);
        due("failed there", x.isVoid(0, 3), 1);
        x.fact(2, 0, 5);
        due("mended behind it", x.isVoid(0, 4), 1);
        x.fact(2, 0, 4);
        due("mended ahead of it", x.isVoid(0, 5), 0);
        x.fact(3, 0, 4);
        due("home again", x.isVoid(0, 6), 2);
        x.run(0, 0, 1, 4);
        due("a run there", x.isVoid(0, 7), 0);
        int[] all = {2, 0, 1, 1, 0, 2, 0};
        for (int n = 1; n <= 7; n++) due("by " + n, x.isVoid(0, n), all[n - 1]);
        due("by none", x.isVoid(0, 0), NONE);
        due("by more than there are", x.isVoid(0, 8), NONE);
        due("the run of day 4", x.isVoid(6, 7), 0);
    }

    private static void heldValues() {
        holds(22, "Of a RUN that HOLDS, as KNOWN by n: what 0: MILES that count, 1: WEAR, 2: coal, 3: 1 if it is BEYOND, else 0, "
            + "4: the ENGINE's MILES ahead of it.");
        EngineShed x = Bounds.sheds(2);
        x.turn(0, 1, 6, 10, 101, 0, 0, false);
        x.turn(1, 0, 10, 14, 60, 0, 0, false);
        read(x, "wear w miles / 2 + 3; coal c hours * 5 + worn; due d if 100 < miles;");
        x.run(0, 0, 0, 1);
        x.run(0, 1, 0, 1);
        x.run(0, 0, 1, 2);
        x.mile(0, 77);
        x.fails(0, 1, 12);
        x.mile(0, 99);
        x.fact(2, 0, 1);
        x.lent(1, 0, 1);
        x.run(0, 1, 0, 1);
        int[][][] by = {
            {{101, 3, 20, 0, 0}}, {{101, 3, 20, 0, 0}, {60, 53, 23, 0, 101}},
            {{101, 3, 20, 0, 0}, {60, 53, 23, 0, 101}, {101, 83, 76, 1, 161}},
            {{77, 3, 20, 0, 0}, {60, 41, 23, 0, 77}, {101, 71, 64, 1, 137}},
            {{77, 3, 20, 0, 0}, {30, 41, 23, 0, 77}, null},
            {{99, 3, 20, 0, 0}, {30, 52, 23, 0, 99}, null},
            {{99, 3, 20, 0, 0}, {30, 52, 23, 0, 99}, null}};
        for (int n = 1; n <= 7; n++) {
            for (int f = 0; f < by[n - 1].length; f++) {
                for (int what = -1; what < 7; what++) {
                    boolean is = by[n - 1][f] != null && what >= 0 && what < 5;
                    due("held(" + f + ", " + n + ", " + what + ")", x.held(f, n, what), is ? by[n - 1][f][what] : NONE);
                }
            }
        }
        due("it has run up to 14", x.isVoid(8, 9), 3);
    }

    private static void bars() {
        holds(23, "Of a RUN that is VOID by 4: the bar RULE's k in rule(); NONE: it is not so, no such ones.");
        EngineShed x = Bounds.sheds(1);
        x.turn(0, 0, 1, 2, 0, 10, 0, false);
        x.turn(0, 0, 3, 4, 0, 20, 0, false);
        x.turn(0, 0, 5, 6, 0, 30, 0, false);
        read(x, "wear w 1; bar a if load == 10 and day < 9; due d if 1 < 2; bar b if load < 21; price p 1; bar c if 9 < day;");
        read(x, "from 5; strike w; bar a if load == 30;");
        read(x, "from 7; strike a; bar z if load != 20;");
        int[] days = {0, 5, 7, 10};
        // By days: the bar's k for the turns of loads 10, 20, 30; NONE: it holds.
        int[][] want = {{1, 3, NONE}, {2, 2, 0}, {1, 1, 4}, {1, 1, 3}};
        for (int d = 0; d < 4; d++) {
            for (int t = 0; t < 3; t++) {
                int f = x.run(0, t, 0, days[d]);
                int n = f + 1;
                due("why on " + days[d] + " turn " + t, x.isVoid(f, n), want[d][t] == NONE ? 0 : 4);
                due("bar on " + days[d] + " turn " + t, x.bar(f, n), want[d][t]);
                if (want[d][t] != NONE) due("its sort", x.rule(days[d], x.bar(f, n), 0), 0);
            }
        }
    }

    private static void helpKnown() {
        holds(26, "HELP for a FAILS that did something, as KNOWN by n: the ENGINE; -2: none; NONE: no such FACT among the first n, another one, "
            + "it did nothing.");
        EngineShed x = helpers();
        due("a fails", x.fails(0, 7, 8), 0);
        due("by it alone", x.help(0, 1), -2);
        x.run(1, 0, 1, 7);
        due("engine 1 has a spare turn", x.help(0, 2), 1);
        x.run(3, 2, 3, 7);
        due("engine 3 is nearer", x.help(0, 3), 3);
        x.run(2, 1, 2, 7);
        due("engine 2 is as near", x.help(0, 4), 2);
        x.shops(2, 6, 8);
        due("but it is in the shops", x.help(0, 5), 3);
        x.lent(0, 1, 5);
        due("engine 0 stands by 1", x.help(0, 6), 1);
        x.fails(0, 6, 8);
        due("it had failed ahead of it", x.help(0, 7), NONE);
        due("that one has none", x.help(6, 7), -2);
        x.fact(2, 0, 7);
        due("mended behind it", x.help(0, 8), NONE);
        x.fact(2, 0, 6);
        due("mended ahead of it", x.help(0, 9), 1);
        int[] all = {NONE, -2, 1, 3, 2, 3, 1, NONE, NONE, 1};
        for (int n = 0; n < 10; n++) due("by " + n, x.help(0, n), all[n]);
        due("a run", x.help(1, 9), NONE);
        due("fact 9 of 9", x.help(9, 9), NONE);
        due("fact -1", x.help(-1, 9), NONE);
    }

    private static void coalDays() {
        holds(27, "COAL of a SHED behind a DAY, as KNOWN by n (it may be below 0); -1000000: no such ones.");
        EngineShed x = coalBoard("coal c hours * 100;");
        x.coals(1, 3, 50);
        x.fact(0, 0, 1);
        x.fails(0, 0, 3);
        // By n: what is left at sheds 0 and 1 behind days 0 .. 3.
        int[][] zero = {{0, 0, 0, 0}, {2000, 2000, 2000, 2000}, {2000, 2000, 2000, 2000}, {2000, 1600, 1600, 1600}, {2000, 1600, 1600, 1600},
            {2000, 1600, 1600, 1600}, {2000, 1600, 1600, 1200}, {2000, 1600, 1600, 1200}, {2000, 1600, 1600, 1200}, {2000, 2000, 2000, 1600}};
        int[][] one = {{0, 0, 0, 0}, {0, 0, 0, 0}, {100, 100, 100, 100}, {100, 100, 100, 100}, {100, -500, -500, -500}, {100, -500, -1100, -1100},
            {100, -500, -1100, -1100}, {100, -500, -1100, -1050}, {100, -500, -1100, -1050}, {100, 100, -500, -450}};
        for (int n = 0; n < 10; n++) {
            for (int day = 0; day < 4; day++) {
                due("coal(0, " + day + ", " + n + ")", x.coal(0, day, n), zero[n][day]);
                due("coal(1, " + day + ", " + n + ")", x.coal(1, day, n), one[n][day]);
            }
            due("behind the last day", x.coal(1, 119, n), one[n][3]);
        }
        for (int s : new int[] {-1, 2, Bounds.MIN, Bounds.MAX}) due("coal(" + s + ")", x.coal(s, 0, 0), Bounds.OUTSIDE);
        for (int n : new int[] {-1, 10, Bounds.MIN, Bounds.MAX}) due("by " + n, x.coal(0, 0, n), Bounds.OUTSIDE);
    }
}
