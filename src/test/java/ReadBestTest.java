import java.util.ArrayList;
import java.util.List;
import java.util.Random;

/** Of the document's part IV: sentences that a reading from its first line found without a test of their own. */
public final class ReadBestTest {
    private static final int NONE = Bounds.NONE;

    public static void main(String[] args) {
        best();
        bestKnown();
        lack();
        bestRemembered();
        rows();
        inTheWay();
        roadNumbers();
        roadsRemembered();
        months();
        monthsRemembered();
        causesOf();
        causeSets();
        causesKnown();
        causeOrder();
        all();
        Bounds.finish();
    }

    private static void holds(int promise, String words) {
        Bounds.holds(promise, words);
    }

    private static void due(String call, int got, int want) {
        Bounds.due(call, got, want);
    }

    private static int read(EngineShed x, String s) {
        return Bounds.read(x, s);
    }

    // ---- the best

    /** Engines and turns by chance, with which of them may and at what price, as the rules tell. */
    private static final class Choice {
        final EngineShed x = new EngineShed();
        final int engines;
        final int turns;
        final boolean[][] may;
        final int[][] price;
        int least = Integer.MAX_VALUE;
        int[] first;

        Choice(int seed) {
            Random r = new Random(seed);
            for (int i = 0; i < 2; i++) x.shed();
            engines = 1 + r.nextInt(6);
            turns = 1 + r.nextInt(5);
            int[] clas = new int[engines];
            int[] home = new int[engines];
            int[] from = new int[turns];
            int[] load = new int[turns];
            int[] miles = new int[turns];
            for (int e = 0; e < engines; e++) x.engine(clas[e] = r.nextInt(4), home[e] = r.nextInt(4) / 3);
            for (int t = 0; t < turns; t++) {
                from[t] = r.nextInt(4) / 3;
                x.turn(from[t], 0, 3, 5, miles[t] = r.nextInt(30), load[t] = r.nextInt(4), 0, false);
            }
            int a = r.nextInt(20);
            int b = r.nextInt(20);
            int bar = r.nextInt(4);
            read(x, "bar b if class == " + bar + " and " + bar + " <= load; price p class * " + a + " + (3 - class) * load * " + b + " - far;");
            may = new boolean[turns][engines];
            price = new int[turns][engines];
            for (int t = 0; t < turns; t++) {
                for (int e = 0; e < engines; e++) {
                    may[t][e] = home[e] == from[t] && !(clas[e] == bar && bar <= load[t]);
                    price[t][e] = Math.max(0, clas[e] * a + (3 - clas[e]) * load[t] * b - miles[t]);
                }
            }
        }

        /** All ways, the least turn's engine first: the first of the least price stays. */
        void tryAll(int set, int t, int[] who, int sum) {
            if (t == turns) {
                if (sum < least) {
                    least = sum;
                    first = who.clone();
                }
                return;
            }
            who[t] = NONE;
            if ((set >> t & 1) == 0) {
                tryAll(set, t + 1, who, sum);
                return;
            }
            for (int e = 0; e < engines; e++) {
                boolean free = may[t][e];
                for (int i = 0; i < t; i++) free &= who[i] != e;
                if (!free) continue;
                who[t] = e;
                tryAll(set, t + 1, who, sum + price[t][e]);
            }
            who[t] = NONE;
        }

        int lacking(int set) {
            int found = 0;
            for (int some = 1; some < 1 << turns; some++) {
                if ((some & ~set) != 0) continue;
                int able = 0;
                for (int e = 0; e < engines; e++) {
                    boolean is = false;
                    for (int t = 0; t < turns; t++) is |= (some >> t & 1) != 0 && may[t][e];
                    able += is ? 1 : 0;
                }
                if (able < Integer.bitCount(some) && (found == 0 || ahead(some, found))) found = some;
            }
            return found;
        }
    }

    /** Of the fewer, of as many that one which has the least that is not in both. */
    private static boolean ahead(int one, int other) {
        if (Integer.bitCount(one) != Integer.bitCount(other)) return Integer.bitCount(one) < Integer.bitCount(other);
        for (int i = 0; i < 31; i++) {
            if ((one >> i & 1) != (other >> i & 1)) return (one >> i & 1) == 1;
        }
        return false;
    }

    private static void best() {
        holds(29, "Each TURN has one that may, none has two; PRICE: of each the E of the first price RULE in force that holds, "
            + "held to 0 .. 9999 (0 without); the least in all; of these the first (the least TURN's ENGINE the least, then the next one's).");
        for (int seed = 0; seed < 150; seed++) {
            Choice c = new Choice(seed);
            for (int set = 0; set < 1 << c.turns; set++) {
                c.least = Integer.MAX_VALUE;
                c.tryAll(set, 0, new int[c.turns], 0);
                boolean can = c.least < Integer.MAX_VALUE;
                due("best of seed " + seed + ", " + set, c.x.best(0, set, 0), can ? c.least : -2);
                for (int t = 0; t < c.turns; t++) due("given(" + t + ")", c.x.given(t), can ? c.first[t] : NONE);
            }
        }
    }

    private static void lack() {
        holds(31, "LACK: if that can't be: the first set of TURNS (of the fewest TURNS, then the one that has the least TURN that is not in both) "
            + "that together have fewer ENGINES that may than TURNS.");
        int lacks = 0;
        for (int seed = 200; seed < 320; seed++) {
            Choice c = new Choice(seed);
            for (int set = 0; set < 1 << c.turns; set++) {
                int want = c.lacking(set);
                lacks += want == 0 ? 0 : 1;
                due("a lack of seed " + seed + ", " + set, c.x.best(3, set, 0) == -2 ? 1 : 0, want == 0 ? 0 : 1);
                due("the lack of seed " + seed + ", " + set, c.x.lack(), want);
            }
        }
        due("many of these lack", lacks > 100 ? 1 : 0, 1);
    }

    private static void bestKnown() {
        holds(29, "THE BEST for a DAY and a set of TURNS (8 at most), as KNOWN by n: ENGINES as they are in the morning "
            + "(behind all FACTS of the DAYS ahead):");
        EngineShed x = new EngineShed();
        for (int i = 0; i < 2; i++) x.shed();
        for (int i = 0; i < 3; i++) x.engine(i, 0);
        x.man(255);
        x.turn(0, 1, 4, 6, 50, 0, 0, false);
        x.turn(1, 1, 4, 6, 50, 0, 0, false);
        read(x, "price p 10 + class + miles;");
        x.fails(0, 2, 5);
        x.fact(2, 0, 4);
        x.lent(1, 1, 3);
        x.shops(2, 3, 6);
        x.run(0, 0, 0, 1);
        // By n, by days 0 .. 7: the price of turn 0 (and who), -2 for a lack.
        int[][] price = {{10, 10, 10, 10, 10, 10, 10, 10}, {10, 10, 10, 11, 11, 11, 11, 11}, {10, 10, 10, 11, 11, 10, 10, 10},
            {10, 10, 10, 11, 12, 10, 10, 10}, {10, 10, 10, 11, -2, 10, 10, 10}, {10, 10, 11, 11, -2, -2, 12, 12}};
        int[][] who = {{0, 0, 0, 0, 0, 0, 0, 0}, {0, 0, 0, 1, 1, 1, 1, 1}, {0, 0, 0, 1, 1, 0, 0, 0},
            {0, 0, 0, 1, 2, 0, 0, 0}, {0, 0, 0, 1, NONE, 0, 0, 0}, {0, 0, 1, 1, NONE, NONE, 2, 2}};
        for (int n = 0; n <= 5; n++) {
            for (int day = 0; day < 8; day++) {
                due("best(" + day + ", 1, " + n + ")", x.best(day, 1, n), price[n][day]);
                due("given(0)", x.given(0), who[n][day]);
                due("lack()", x.lack(), price[n][day] == -2 ? 1 : 0);
            }
        }
        // Behind day 1 engine 0 stands at 1 with 50 miles, behind day 3 engine 1 does with none.
        due("turn 1 on day 2", x.best(2, 2, 5), 60);
        due("both on day 2", x.best(2, 3, 5), 71);
        due("turn 1 on day 4", x.best(4, 2, 5), 11);
        due("both on day 4", x.best(4, 3, 5), -2);
        due("both on day 6", x.best(6, 3, 5), 23);
        due("by none", x.best(6, 3, 0), -2);
    }

    private static void bestRemembered() {
        holds(29, "THE BEST for a DAY and TURNS (bits), as KNOWN by n, is remembered: its PRICE. -2: LACK (that is remembered); "
            + "NONE, and nothing happens: no such ones, more than 8 TURNS.");
        EngineShed x = Bounds.sheds(2);
        for (int t = 0; t < 9; t++) x.turn(t / 8, 0, 0, 1, 0, t, 0, false);
        read(x, "price p load + 5;");
        int[][] refused = {{-1, 1, 0}, {120, 1, 0}, {0, -1, 0}, {0, 512, 0}, {0, 511, 0}, {0, 1, 1}, {0, 1, -1}, {120, 511, 1}};
        for (int round = 0; round < 2; round++) {
            due("the best", x.best(3, 1 << 4, 0), 9);
            for (int[] r : refused) {
                due("refused", x.best(r[0], r[1], r[2]), NONE);
                for (int t = 0; t < 9; t++) due("given(" + t + ")", x.given(t), t == 4 ? 0 : NONE);
                due("no lack", x.lack(), 0);
            }
            x.best(3, 1 << 4 | 1 << 8, 0);
            due("another", x.given(8), 1);
            due("a lack", x.best(3, 0b1110, 0), -2);
            for (int[] r : refused) {
                due("refused", x.best(r[0], r[1], r[2]), NONE);
                for (int t = 0; t < 9; t++) due("given(" + t + ")", x.given(t), NONE);
                due("the lack", x.lack(), 0b110);
            }
            x.engine(0, 0);
            x.fact(0, 0, 0);
            due("it stays", x.lack(), 0b110);
            x = Bounds.sheds(2);
            for (int t = 0; t < 9; t++) x.turn(t / 8, 0, 0, 1, 0, t, 0, false);
            read(x, "price p load + 5;");
        }
    }

    // ---- rows and roads

    private static void rows() {
        holds(32, "An ENGINE comes behind the row of those that come in, or (out) of those that go out: how long that is.");
        EngineShed x = Bounds.sheds(1);
        for (int i = 1; i < 9; i++) x.engine(0, 0);
        int[] in = {3, 8, 0, 5, 1, 7, 2};
        int[] out = {2, 3, 5, 7, 8, 0, 1};
        for (int i = 0; i < 7; i++) {
            due("in " + in[i], x.lines(false, in[i]), i + 1);
            due("out " + out[i], x.lines(true, out[i]), i + 1);
            due("in once more", x.lines(false, in[i]), NONE);
            due("out once more", x.lines(true, out[i]), NONE);
        }
        due("an 8th", x.lines(false, 4), NONE);
        due("an 8th that goes out", x.lines(true, 4), NONE);
        int[] first = firstRoads(in, out, 3);
        due("the roads", x.roads(3), first[7]);
        for (int i = 0; i < 7; i++) due("road of " + in[i], x.road(in[i]), first[i]);
        due("of one in no row", x.road(4), NONE);
    }

    private static int indexIn(int[] row, int x) {
        for (int i = 0; i < row.length; i++) if (row[i] == x) return i;
        return NONE;
    }

    /** By trying all: the first roads with the fewest in the way, and behind them how many those are. */
    private static int[] firstRoads(int[] in, int[] out, int many) {
        int[] first = null;
        int total = (int) Math.round(Math.pow(many, in.length));
        for (int code = 0; code < total; code++) {
            int[] r = new int[in.length + 1];
            for (int i = in.length - 1, c = code; i >= 0; i--, c /= many) r[i] = c % many;
            for (int i = 0; i < in.length; i++) {
                boolean inTheWay = false;
                // Who came ahead of it on its road stands behind it there.
                for (int j = 0; j < i; j++) inTheWay |= r[j] == r[i] && indexIn(out, in[j]) < indexIn(out, in[i]);
                if (inTheWay) r[in.length]++;
            }
            if (first == null || r[in.length] < first[in.length]) first = r;
        }
        return first;
    }

    private static void roadsOf(int[] in, int[] out) {
        EngineShed x = Bounds.sheds(1);
        for (int i = 1; i < 9; i++) x.engine(0, 0);
        for (int e : in) x.lines(false, e);
        for (int e : out) x.lines(true, e);
        for (int many = 1; many <= 3; many++) {
            int[] first = firstRoads(in, out, many);
            due("roads(" + many + ")", x.roads(many), first[in.length]);
            for (int i = 0; i < in.length; i++) due("road of the one that came as " + i, x.road(in[i]), first[i]);
        }
    }

    private static void orders(int[] in, int[] out, int at) {
        if (at == out.length) {
            roadsOf(in, out);
            return;
        }
        for (int i = at; i < out.length; i++) {
            int[] next = out.clone();
            next[at] = out[i];
            next[i] = out[at];
            orders(in, next, at + 1);
        }
    }

    private static void inTheWay() {
        holds(34, "they go out in the order of another row of the same. One is IN THE WAY if on its road, behind it, is one that goes out sooner. "
            + "THE ROADS: the fewest IN THE WAY;");
        int[][] rows = {{7}, {8, 1}, {2, 0, 5}, {4, 3, 2, 1}, {0, 8, 1, 7, 2}};
        for (int[] in : rows) orders(in, in.clone(), 0);
        Random r = new Random(5);
        for (int round = 0; round < 20; round++) {
            int[] in = {8, 1, 6, 2, 5, 3, 0};
            int[] out = in.clone();
            for (int i = 6; i > 0; i--) {
                int j = r.nextInt(i + 1);
                int e = out[i];
                out[i] = out[j];
                out[j] = e;
            }
            roadsOf(in, out);
        }
    }

    private static void roadNumbers() {
        holds(34, "ROADS of a SHED (1 .. 3): ENGINES of a row (7 at most) come in one behind the other");
        EngineShed x = Bounds.sheds(1);
        for (int i = 1; i < 9; i++) x.engine(0, 0);
        // All go out as they came in: each on a road of its own is the best that can be.
        for (int i = 0; i < 7; i++) {
            x.lines(false, i);
            x.lines(true, i);
            for (int many : new int[] {Bounds.MIN, -1, 0, 4, 5, Bounds.MAX}) due("roads(" + many + ")", x.roads(many), NONE);
            for (int many = 1; many <= 3; many++) due("roads(" + many + ")", x.roads(many), Math.max(0, i + 1 - many));
        }
    }

    private static void roadsRemembered() {
        holds(34, "THE ROADS of so many are remembered: how many are IN THE WAY. NONE, and nothing happens: no such number, the rows are not "
            + "of the same ENGINES, empty.");
        EngineShed x = Bounds.sheds(3);
        for (int e : new int[] {2, 0}) {
            x.lines(false, e);
            x.lines(true, e);
        }
        due("on two", x.roads(2), 0);
        int[] two = {1, NONE, 0};
        for (int step = 0; step < 6; step++) {
            if (step == 1) due("no road", x.roads(0), NONE);
            if (step == 2) x.lines(false, 1);
            if (step == 3) due("not of the same", x.roads(1), NONE);
            if (step == 4) x.clear();
            if (step == 5) due("empty", x.roads(3), NONE);
            for (int e = 0; e < 3; e++) due("road of " + e + " at step " + step, x.road(e), two[e]);
        }
        x.lines(false, 1);
        x.lines(true, 1);
        due("another one", x.roads(3), 0);
        for (int e = 0; e < 3; e++) due("road of " + e, x.road(e), e == 1 ? 0 : NONE);
    }

    // ---- months

    /** Whether so many turns, from the i-th on, have one each of the engines that are free. */
    private static boolean worked(boolean[][] may, int i, int free) {
        if (i == may.length) return true;
        for (int e = 0; e < may[i].length; e++) {
            if (may[i][e] && (free >> e & 1) != 0 && worked(may, i + 1, free & ~(1 << e))) return true;
        }
        return false;
    }

    private static boolean goes(boolean[][] may, int engines, int[] month, int[] who, int w, int p, int f) {
        for (int m = 0; m < w; m++) {
            int free = (1 << engines) - 1;
            int in = 0;
            for (int i = 0; i < who.length; i++) {
                if (month[i] == m) {
                    free &= ~(1 << who[i]);
                    in++;
                }
            }
            if (in > p) return false;
            if (f == 0 || free == 0) {
                if (!worked(may, 0, free)) return false;
            } else {
                for (int e = 0; e < engines; e++) {
                    if ((free >> e & 1) != 0 && !worked(may, 0, free & ~(1 << e))) return false;
                }
            }
        }
        return true;
    }

    private static void months() {
        holds(37, "MONTHS: ENGINES of a set (5 at most), each in the SHOPS for one of W months (1 .. 5), P (1 .. 5) at most in one; "
            + "in each month and whichever f (0, 1) of all other ENGINES fail (none, if there is none other), "
            + "told TURNS (8 at most) have one each that is of a CLASS that may (a told table of CLASSES and TURNS). "
            + "THE MONTHS: the first (the least ENGINE's month the least, then the next one's).");
        Random r = new Random(11);
        int[] told = new int[2];
        for (int round = 0; round < 400; round++) {
            EngineShed x = Bounds.empty();
            x.shed();
            int engines = 1 + r.nextInt(6);
            int[] clas = new int[engines];
            for (int e = 0; e < engines; e++) x.engine(clas[e] = r.nextInt(3), 0);
            int turns = r.nextInt(4);
            boolean[][] may = new boolean[turns][engines];
            for (int t = 0; t < turns; t++) x.turn(0, 0, 0, 1, 0, 0, 0, false);
            for (int t = 0; t < turns; t++) {
                for (int c = 0; c < 6; c++) {
                    boolean is = r.nextInt(4) > 0;
                    x.may(c, t, is);
                    for (int e = 0; e < engines; e++) if (clas[e] == c) may[t][e] = is;
                }
            }
            int set = 1 + r.nextInt((1 << engines) - 1);
            if (Integer.bitCount(set) > 5) set &= 31;
            int w = 1 + r.nextInt(4);
            int p = 1 + r.nextInt(3);
            int f = r.nextInt(2);
            int[] who = new int[Integer.bitCount(set)];
            for (int e = 0, i = 0; e < engines; e++) if ((set >> e & 1) != 0) who[i++] = e;
            int[] first = null;
            int total = (int) Math.round(Math.pow(w, who.length));
            for (int code = 0; code < total && first == null; code++) {
                int[] month = new int[who.length];
                for (int i = who.length - 1, c = code; i >= 0; i--, c /= w) month[i] = c % w;
                if (goes(may, engines, month, who, w, p, f)) first = month;
            }
            due("months of round " + round, x.months(set, w, p, (1 << turns) - 1, f), first == null ? -2 : 0);
            for (int i = 0; i < who.length; i++) due("month of " + who[i], x.month(who[i]), first == null ? NONE : first[i]);
            told[first == null ? 0 : 1]++;
        }
        due("some can be", told[1] > 50 ? 1 : 0, 1);
        due("some can't", told[0] > 50 ? 1 : 0, 1);
    }

    private static void monthsRemembered() {
        holds(37, "THE MONTHS for ENGINES (bits), W months, P at most in one, TURNS (bits), f are remembered: 0; -2: there are none. "
            + "NONE, and nothing happens: no such ones (1 .. 5 ENGINES, 8 TURNS at most).");
        EngineShed x = Bounds.sheds(3);
        for (int t = 0; t < 2; t++) x.turn(0, 0, 0, 1, 0, 0, 0, false);
        due("0 and 2 by turns", x.months(5, 2, 1, 3, 0), 0);
        int[] two = {0, NONE, 1};
        int[][] refused = {{0, 2, 1, 3, 0}, {8, 2, 1, 3, 0}, {5, 0, 1, 3, 0}, {5, 6, 1, 3, 0}, {5, 2, 0, 3, 0}, {5, 2, 6, 3, 0}, {5, 2, 1, 4, 0},
            {5, 2, 1, -1, 0}, {5, 2, 1, 3, 2}, {5, 2, 1, 3, -1}, {-1, 2, 1, 3, 0}};
        for (int[] c : refused) {
            due("refused", x.months(c[0], c[1], c[2], c[3], c[4]), NONE);
            for (int e = 0; e < 3; e++) due("month of " + e, x.month(e), two[e]);
        }
        int[][] none = {{5, 1, 1, 3, 0}, {5, 2, 1, 3, 1}, {7, 2, 2, 3, 0}};
        for (int[] c : none) {
            due("there are none", x.months(c[0], c[1], c[2], c[3], c[4]), -2);
            for (int e = 0; e < 3; e++) due("month of " + e, x.month(e), two[e]);
        }
        due("1 alone", x.months(2, 1, 1, 3, 0), 0);
        for (int e = 0; e < 3; e++) due("month of " + e, x.month(e), e == 1 ? 0 : NONE);
        due("all, by one turn", x.months(7, 3, 1, 1, 1), 0);
        for (int e = 0; e < 3; e++) due("month of " + e, x.month(e), e);
    }

    // ---- causes

    /** Failures by chance, each on a day of its own, and the causes that each has. */
    private static final class Failures {
        final EngineShed x = new EngineShed();
        // By facts: the causes of a fails that did something, else 0.
        final List<Integer> own = new ArrayList<>();

        Failures(int seed, int many) {
            Random r = new Random(seed);
            for (int i = 0; i < 5; i++) x.shed();
            for (int e = 0; e < 9; e++) x.engine(e % 6, e % 5);
            for (int m = 0; m < 8; m++) x.man(255);
            for (int s = 0; s < 5; s++) x.turn(s, s, 3, 5, 0, 0, 0, true);
            int wide = 1 + r.nextInt(3);
            for (int i = 0; i < many; i++) {
                int e = r.nextInt(3 * wide);
                int shed = r.nextInt(1 + 2 * wide % 5);
                int man = r.nextInt(4 * wide) % 8;
                boolean ran = r.nextBoolean();
                int day = 2 * i + 1;
                x.lent(e, shed, day);
                own.add(0);
                if (ran) {
                    x.run(e, x.state(e, day, own.size(), 0), man, day);
                    own.add(0);
                }
                int stands = x.state(e, day, own.size(), 0);
                x.fails(e, day, 9);
                own.add(1 << e % 6 | 1 << 8 + stands | (ran ? 1 << 16 + man : 0));
                if (r.nextInt(4) == 0) {
                    x.fails(e, day, 10);
                    own.add(0);
                }
                x.fact(2, e, day + 1);
                own.add(0);
            }
        }

        /** The sets of the fewest, three at most, in their order; null if there are none of so few. */
        List<Integer> sets(int n) {
            List<Integer> found = new ArrayList<>();
            boolean some = false;
            for (int f = 0; f < n; f++) some |= own.get(f) != 0;
            for (int size = 1; some && size <= 3 && found.isEmpty(); size++) {
                for (int a = 0; a < 24; a++) {
                    for (int b = size > 1 ? a + 1 : a; b < (size > 1 ? 24 : a + 1); b++) {
                        for (int c = size > 2 ? b + 1 : b; c < (size > 2 ? 24 : b + 1); c++) {
                            int set = 1 << a | 1 << b | 1 << c;
                            boolean each = true;
                            for (int f = 0; f < n; f++) each &= own.get(f) == 0 || (own.get(f) & set) != 0;
                            if (each) found.add(set);
                        }
                    }
                }
            }
            found.sort((p, q) -> p.equals(q) ? 0 : ahead(p, q) ? -1 : 1);
            return some && found.isEmpty() ? null : found;
        }
    }

    private static void causesOf() {
        holds(39, "CAUSES of the FAILS KNOWN by n that did something: each has a CLASS, the SHED at which it then stood, and the MAN of its last RUN "
            + "of that DAY (or none).");
        for (int seed = 0; seed < 60; seed++) {
            Failures one = new Failures(seed, 1);
            int n = one.own.size();
            int fails = 0;
            for (int own : one.own) fails |= own;
            due("as many as the causes of the one", one.x.causes(n), Integer.bitCount(fails));
            for (int i = 0, bit = 0; bit < 24; bit++) {
                if ((fails >> bit & 1) != 0) due("cause " + i, one.x.cause(n, i++), 1 << bit);
            }
            due("no more", one.x.cause(n, Integer.bitCount(fails)), NONE);
            due("none known", one.x.causes(1), 0);
        }
        EngineShed x = Bounds.sheds(2);
        x.turn(0, 1, 3, 5, 40, 0, 0, false);
        x.turn(1, 1, 5, 7, 40, 0, 0, false);
        x.run(0, 0, 0, 4);
        x.run(0, 1, 1, 4);
        x.fails(0, 5, 0);
        due("a run of another day", x.causes(3), 2);
        due("the class", x.cause(3, 0), 1);
        due("where it stood", x.cause(3, 1), 1 << 9);
        x.fails(0, 4, 6);
        due("a fails of that day", x.causes(4), 3);
        due("the class", x.cause(4, 0), 1);
        due("where the last one began", x.cause(4, 1), 1 << 9);
        due("the last one's man", x.cause(4, 2), 1 << 17);
    }

    private static void causeSets() {
        holds(39, ": a set so that each FAILS has one of its own in it: of the fewest; how many such sets there are, and the i-th "
            + "(by bits, the least CAUSE that is not in both first). Of 3 at most.");
        int[] sizes = new int[5];
        for (int seed = 0; seed < 80; seed++) {
            Failures some = new Failures(seed, 2 + seed % 9);
            int n = some.own.size();
            List<Integer> sets = some.sets(n);
            due("causes of seed " + seed, some.x.causes(n), sets == null ? -2 : sets.size());
            int told = sets == null ? 0 : sets.size();
            for (int i = 0; i < told && i < 60; i++) due("cause " + i + " of seed " + seed, some.x.cause(n, i), sets.get(i));
            due("no more", some.x.cause(n, told), NONE);
            sizes[sets == null ? 4 : Integer.bitCount(sets.get(0))]++;
        }
        for (int size = 1; size <= 4; size++) due("boards of " + size, sizes[size] > 2 ? 1 : 0, 1);
    }

    private static void causesKnown() {
        holds(39, "How many sets of CAUSES there are of the fewest, as KNOWN by n (0: no FAILS that did something); -2: none of 3 at most; NONE: no such n.");
        for (int seed = 100; seed < 112; seed++) {
            Failures some = new Failures(seed, 8);
            for (int n = 0; n <= some.own.size(); n++) {
                List<Integer> sets = some.sets(n);
                due("causes by " + n + " of seed " + seed, some.x.causes(n), sets == null ? -2 : sets.size());
            }
            for (int n : new int[] {-1, some.own.size() + 1, Bounds.MIN, Bounds.MAX}) {
                due("causes by " + n, some.x.causes(n), NONE);
                due("cause by " + n, some.x.cause(n, 0), NONE);
            }
        }
    }

    private static void causeOrder() {
        holds(40, "The i-th of these (bits); NONE: not so many, no such n.");
        for (int seed = 100; seed < 112; seed++) {
            Failures some = new Failures(seed, 5);
            for (int n = some.own.size(); n >= 0; n -= 3) {
                List<Integer> sets = some.sets(n);
                int told = sets == null ? 0 : sets.size();
                for (int i : new int[] {Bounds.MIN, -1, told, told + 1, Bounds.MAX}) due("cause(" + n + ", " + i + ")", some.x.cause(n, i), NONE);
                for (int i = Math.min(told, 25) - 1; i >= 0; i--) due("cause(" + n + ", " + i + ")", some.x.cause(n, i), sets.get(i));
            }
        }
    }

    // ---- all of it

    private static void all() {
        holds(29, "engines for a day's turns at the least price or the turns that lack, roads of a shed with the fewest in the way, "
            + "months in the shops, the fewest causes of failures");
        EngineShed x = Bounds.yard();
        int n = x.count(4);
        due("turns 0 and 2 on day 4", x.best(4, 5, n), -2);
        due("engine 0 has run to 1, 1 is lent to 2", x.lack(), 1);
        due("turn 1 on day 4", x.best(4, 2, n), 20);
        due("by engine 0", x.given(1), 0);
        due("on one road", x.roads(1), 0);
        due("one comes more", x.lines(false, 1), 3);
        due("and goes out last", x.lines(true, 1), 3);
        due("on one road it has both behind it", x.roads(1), 1);
        due("on two it has none", x.roads(2), 0);
        due("its road", x.road(1), 1);
        due("0 and 1 in the shops", x.months(3, 2, 1, 2, 1), 0);
        due("0 first", x.month(0), 0);
        due("1 then", x.month(1), 1);
        due("the causes of one", x.causes(n), 2);
        due("the class", x.cause(n, 0), 1);
        due("the shed", x.cause(n, 1), 1 << 8);
    }
}
