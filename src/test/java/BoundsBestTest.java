import java.util.Arrays;

/** Boundary cases of the document's part IV: the best, lacks, roads, months, causes (29 to 40). */
public final class BoundsBestTest {
    private static final int NONE = Bounds.NONE;
    private static final int MIN = Bounds.MIN;
    private static final int MAX = Bounds.MAX;

    public static void main(String[] args) {
        bestOutside();
        bestTurns();
        bestMay();
        bestMorning();
        bestPrices();
        bestFirst();
        givenOutside();
        givenStays();
        lackAnswers();
        lackSets();
        linesOutside();
        linesFull();
        clearing();
        roadsOutside();
        roadsRows();
        roadsFewest();
        roadOutside();
        mayOutside();
        mayTable();
        monthsOutside();
        monthsMany();
        monthsRoom();
        monthsTurns();
        monthsFailing();
        monthsFirst();
        monthsByTrial();
        monthStays();
        causesOutside();
        causesNone();
        causesThree();
        causesBits();
        causesOfFails();
        causeOutside();
        causeOrder();
        Bounds.finish();
    }

    private static void holds(int promise, String words) {
        Bounds.holds(promise, words);
    }

    private static void due(String call, int got, int want) {
        Bounds.due(call, got, want);
    }

    private static void due(String call, boolean got, boolean want) {
        Bounds.due(call, got, want);
    }

    private static int turn(EngineShed x, int from, int to, int a, int b) {
        return x.turn(from, to, a, b, 5, 0, 0, false);
    }

    /** One shed, so many engines of class 0 there, a man, so many turns from there. */
    private static EngineShed crowd(int engines, int turns) {
        EngineShed x = new EngineShed();
        x.shed();
        x.man(255);
        for (int i = 0; i < engines; i++) x.engine(0, 0);
        for (int i = 0; i < turns; i++) x.turn(0, 0, i, i + 1, 5, i, 0, false);
        return x;
    }

    // ---- best

    private static void bestOutside() {
        holds(29, "NONE, and nothing happens: no such ones, more than 8 TURNS.");
        int[][] yes = {{0, 1, 0, 0}, {119, 1, 0, 50}, {0, 0, 0, 0}, {119, 0, 12, 0}, {0, 31, 0, -2}, {0, 16, 0, 0}};
        for (int[] a : yes) due("best" + Arrays.toString(a), Bounds.yard().best(a[0], a[1], a[2]), a[3]);
        int[][] no = {{-1, 1, 0}, {120, 1, 0}, {MIN, 1, 0}, {MAX, 1, 0}, {0, -1, 0}, {0, 32, 0}, {0, 33, 0}, {0, MIN, 0}, {0, MAX, 0},
            {0, 1, -1}, {0, 1, 13}, {0, 1, MIN}, {0, 1, MAX}, {0, 0, 13}, {-1, 0, 0}, {120, 0, 0}};
        for (int[] a : no) {
            Bounds.refused(Bounds::yard, "best" + Arrays.toString(a), NONE, x -> x.best(a[0], a[1], a[2]));
            Bounds.refused(BoundsBestTest::lackingYard, "best" + Arrays.toString(a), NONE, x -> x.best(a[0], a[1], a[2]));
        }
        Bounds.refused(Bounds::fullYard, "best of 9", NONE, x -> x.best(0, 511, 0));
        Bounds.refused(Bounds::fullYard, "best of all 12", NONE, x -> x.best(0, 4095, 0));
        Bounds.refused(Bounds::fullYard, "best of a 13th", NONE, x -> x.best(0, 4096, 0));
        due("by all 180", Bounds.fullYard().best(0, 0, 180), 0);
        due("by 181", Bounds.fullYard().best(0, 0, 181), NONE);
    }

    private static EngineShed lackingYard() {
        EngineShed x = Bounds.yard();
        x.best(0, 31, 0);
        return x;
    }

    private static void bestTurns() {
        holds(29, "THE BEST for a DAY and a set of TURNS (8 at most)");
        EngineShed x = crowd(9, 12);
        Bounds.read(x, "price p 10 + load;");
        due("8 turns, the first", x.best(0, 255, 0), 108);
        due("8 turns, the last", x.best(0, 255 << 4, 0), 140);
        for (int t = 0; t < 12; t++) due("given(" + t + ")", x.given(t), t < 4 ? NONE : t - 4);
        due("9 turns", x.best(0, 511, 0), NONE);
        for (int t = 0; t < 12; t++) due("given(" + t + ") yet", x.given(t), t < 4 ? NONE : t - 4);
        due("8 turns apart", x.best(0, 0b101110010111, 0), 80 + 0 + 1 + 2 + 4 + 7 + 8 + 9 + 11);
        due("no turns", x.best(0, 0, 0), 0);
        for (int t = 0; t < 12; t++) due("given(" + t + ") of none", x.given(t), NONE);
        due("lack of none", x.lack(), 0);
        due("one turn", x.best(119, 2048, 0), 21);
        due("given(11)", x.given(11), 0);
        EngineShed y = crowd(8, 8);
        due("8 turns, 8 engines", y.best(0, 255, 0), 0);
        EngineShed z = crowd(7, 8);
        due("8 turns, 7 engines", z.best(0, 255, 0), -2);
        due("its lack", z.lack(), 255);
        due("7 of them", z.best(0, 254, 0), 0);
        EngineShed w = crowd(0, 2);
        due("no engines", w.best(0, 2, 0), -2);
        due("its lack", w.lack(), 2);
        due("no engines, no turns", w.best(0, 0, 0), 0);
    }

    private static void bestMay() {
        holds(29, "one may work a TURN if it is sound, not in the SHOPS, stands at its from, and no bar RULE in force holds");
        EngineShed x = Bounds.sheds(2);
        turn(x, 0, 1, 1, 2);
        turn(x, 1, 0, 1, 2);
        due("each stands at one", x.best(0, 3, 0), 0);
        due("given(0)", x.given(0), 0);
        due("given(1)", x.given(1), 1);
        x.fails(0, 3, 5);
        x.fact(2, 0, 6);
        x.shops(0, 8, 10);
        x.lent(0, 1, 12);
        boolean[] may = {true, true, true, true, false, false, false, true, true, false, true, true, true, false};
        for (int day = 0; day < may.length; day++) {
            due("day " + day, x.best(day, 1, 4), may[day] ? 0 : -2);
            due("its lack, day " + day, x.lack(), may[day] ? 0 : 1);
        }
        for (int day = 7; day <= 11; day++) due("fails alone is known, day " + day, x.best(day, 1, 1), -2);
        EngineShed y = crowd(2, 2);
        Bounds.read(y, "from 3; bar a if load == 1;");
        Bounds.read(y, "from 5; strike a;");
        for (int day = 0; day < 7; day++) due("barred on 3 and 4, day " + day, y.best(day, 3, 0), day == 3 || day == 4 ? -2 : 0);
        y.best(4, 3, 0);
        due("what is barred lacks", y.lack(), 2);
        EngineShed z = crowd(1, 1);
        z.engine(5, 0);
        Bounds.read(z, "bar a if class < 5; price p 7;");
        due("one that may", z.best(0, 1, 0), 7);
        due("it", z.given(0), 1);
        // Men, lines and hours are no matter.
        EngineShed w = new EngineShed();
        w.shed();
        w.engine(0, 0);
        w.turn(0, 0, 0, 24, 5, 0, 7, false);
        w.turn(0, 0, 0, 24, 0, 0, 7, true);
        due("no man is there", w.best(0, 1, 0), 0);
        due("a spare turn", w.best(0, 2, 0), 0);
    }

    private static void bestMorning() {
        holds(29, "ENGINES as they are in the morning (behind all FACTS of the DAYS ahead)");
        EngineShed x = Bounds.sheds(2);
        turn(x, 0, 1, 1, 2);
        turn(x, 1, 0, 1, 2);
        Bounds.read(x, "price p miles + 100 * days + 10 * looked + lent;");
        x.run(0, 0, 0, 4);
        due("a run of this day does not count", x.best(4, 1, 1), 440);
        due("on the next day it stands elsewhere", x.best(5, 1, 1), -2);
        due("there, of two the cheaper", x.best(5, 2, 1), 550);
        due("given(1)", x.given(1), 1);
        x.fact(0, 1, 5);
        x.fact(1, 0, 5);
        due("washed and looked at on this day", x.best(5, 2, 3), 550);
        due("washed on the day ahead: of two the cheaper", x.best(6, 2, 3), 160);
        due("given(1)", x.given(1), 1);
        x.lent(1, 0, 6);
        due("lent on this day", x.best(6, 2, 4), 160);
        due("lent on the day ahead", x.best(7, 1, 4), 271);
        due("given(0)", x.given(0), 1);
        due("the other one", x.best(7, 2, 4), 725);
        EngineShed y = crowd(1, 1);
        y.fails(0, 119, 0);
        due("failed on this day", y.best(119, 1, 1), 0);
        y.fails(0, 118, 23);
        due("failed on the day ahead", y.best(119, 1, 2), -2);
        y.fact(2, 0, 119);
        due("mended on this day", y.best(119, 1, 3), -2);
        y.fact(2, 0, 118);
        due("mended on the day ahead", y.best(119, 1, 4), 0);
    }

    private static void bestPrices() {
        holds(29, "PRICE: of each the E of the first price RULE in force that holds, held to 0 .. 9999 (0 without); the least in all");
        String[] rules = {"", "price p 0;", "price p 0 - 1;", "price p 0 - 9999;", "price p 1;", "price p 9998;", "price p 9999;", "price p 9999 + 1;",
            "price p 9999 * 9999;", "price p 8192 * 8192 * 32;", "price p 5 + 1 / 0;", "price p 7 if 2 < 1;", "price p 7 if 2 < 1; price q 6;",
            "price p 7; price q 6;", "wear w 5; coal c 6;", "from 1; price p 7;", "price p 7 if not 1 / 0 == 0;"};
        int[] want = {0, 0, 0, 0, 1, 9998, 9999, 9999, 9999, 0, 0, 0, 6, 7, 0, 0, 7};
        for (int i = 0; i < rules.length; i++) {
            EngineShed x = crowd(1, 1);
            due("'" + rules[i] + "' is read", Bounds.read(x, rules[i]), 0);
            due("price by '" + rules[i] + "'", x.best(0, 1, 0), want[i]);
        }
        EngineShed x = crowd(9, 8);
        Bounds.read(x, "price p 9999;");
        due("8 times the most", x.best(0, 255, 0), 79992);
        EngineShed y = new EngineShed();
        y.shed();
        for (int c = 0; c < 3; c++) y.engine(c, 0);
        for (int t = 0; t < 3; t++) y.turn(0, 0, 1, 2, 5, 10 * t, 0, false);
        // By classes and loads: 0: 5 9 1, 1: 6 2 7, 2: 3 4 8 (turns 0, 1, 2).
        Bounds.read(y, "price a 5 if class == 0 and load == 0; price b 9 if class == 0 and load == 10; price c 1 if class == 0;"
            + "price d 6 if class == 1 and load == 0; price e 2 if class == 1 and load == 10; price f 7 if class == 1;"
            + "price g 3 if load == 0; price h 4 if load == 10; price i 8;");
        due("the least in all", y.best(0, 7, 0), 6);
        due("turn 0", y.given(0), 2);
        due("turn 1", y.given(1), 1);
        due("turn 2", y.given(2), 0);
        due("of two turns", y.best(0, 3, 0), 5);
        due("turn 2", y.given(2), NONE);
    }

    private static void bestFirst() {
        holds(29, "of these the first (the least TURN's ENGINE the least, then the next one's)");
        EngineShed x = crowd(9, 8);
        due("all the same", x.best(0, 255, 0), 0);
        for (int t = 0; t < 8; t++) due("turn " + t, x.given(t), t);
        // The least engine may work the first turn alone, or the others only with it.
        EngineShed y = new EngineShed();
        y.shed();
        for (int c = 0; c < 4; c++) y.engine(c, 0);
        for (int t = 0; t < 3; t++) y.turn(0, 0, 1, 2, 5, t, 0, false);
        Bounds.read(y, "bar a if load == 2 and class != 0; bar b if load == 1 and 2 < class;");
        due("the last turn takes engine 0", y.best(0, 7, 0), 0);
        due("turn 0", y.given(0), 1);
        due("turn 1", y.given(1), 2);
        due("turn 2", y.given(2), 0);
        due("without it", y.best(0, 3, 0), 0);
        due("turn 0", y.given(0), 0);
        due("turn 1", y.given(1), 1);
        Bounds.read(y, "price p 5 if class == 1 and load == 0; price q 5 if class == 2 and load == 1;");
        due("prices 5 and 0", y.best(0, 7, 0), 0);
        due("turn 0", y.given(0), 2);
        due("turn 1", y.given(1), 1);
    }

    // ---- given, lack

    private static void givenOutside() {
        holds(30, "The ENGINE of a TURN in what best() told last; NONE: it has none, it was a LACK, no such ones.");
        EngineShed x = crowd(3, 12);
        for (int t = 0; t < 12; t++) due("nothing was told, turn " + t, x.given(t), NONE);
        due("best of turns 0, 1 and 11", x.best(0, 2051, 0), 0);
        int[] want = {0, 1, NONE, NONE, NONE, NONE, NONE, NONE, NONE, NONE, NONE, 2};
        for (int t = 0; t < 12; t++) due("given(" + t + ")", x.given(t), want[t]);
        for (int t : new int[] {-1, 12, MIN, MAX}) due("given(" + t + ")", x.given(t), NONE);
        for (int t : new int[] {-1, 5, 12, MIN, MAX, 2}) Bounds.refused(Bounds::yard, "given(" + t + ")", NONE, y -> y.given(t));
        due("a lack", x.best(0, 15, 0), -2);
        for (int t = 0; t < 12; t++) due("it was a lack, given(" + t + ")", x.given(t), NONE);
    }

    private static void givenStays() {
        holds(30, "in what best() told last");
        EngineShed x = crowd(3, 4);
        x.best(0, 3, 0);
        due("a turn", x.turn(0, 0, 1, 2, 5, 0, 0, false), 4);
        due("a turn that was not there", x.given(4), NONE);
        x.engine(0, 0);
        x.fails(0, 0, 0);
        Bounds.read(x, "bar b if 1 < 2;");
        due("turn 0 yet", x.given(0), 0);
        due("turn 1 yet", x.given(1), 1);
        due("no day", x.best(120, 4, 0), NONE);
        due("turn 1 yet", x.given(1), 1);
        due("lack yet", x.lack(), 0);
        due("all are barred", x.best(0, 2, 0), -2);
        due("turn 1", x.given(1), NONE);
        due("lack", x.lack(), 2);
        due("no turns like those", x.best(0, 32, 0), NONE);
        due("lack yet", x.lack(), 2);
    }

    private static void lackAnswers() {
        holds(31, "TURNS (bits) of the LACK that best() told last; 0 if it was none; NONE: nothing was told.");
        EngineShed x = crowd(1, 12);
        due("nothing was told", x.lack(), NONE);
        due("it was refused", x.best(0, 4096, 0), NONE);
        due("nothing was told yet", x.lack(), NONE);
        due("more than 8", x.best(0, 511, 0), NONE);
        due("nothing was told yet", x.lack(), NONE);
        due("one", x.best(0, 2048, 0), 0);
        due("none", x.lack(), 0);
        due("two", x.best(0, 3072, 0), -2);
        due("both", x.lack(), 3072);
        due("asked again", x.lack(), 3072);
        due("none", x.best(0, 0, 0), 0);
        due("none", x.lack(), 0);
        due("nothing was told to a new one", new EngineShed().lack(), NONE);
    }

    /** A lack for turns 0 .. that each class may work as the bits of a turn tell; one engine of each class up to 5. */
    private static int lackOf(int classes, int... may) {
        EngineShed x = new EngineShed();
        x.shed();
        for (int c = 0; c < classes; c++) x.engine(c, 0);
        StringBuilder s = new StringBuilder();
        for (int t = 0; t < may.length; t++) {
            x.turn(0, 0, 1, 2, 5, t, 0, false);
            for (int c = 0; c < classes; c++) {
                if ((may[t] >> c & 1) == 0) s.append(s.length() == 0 ? "bar b if " : " or ").append("load == ").append(t).append(" and class == ").append(c);
            }
        }
        due("its rules are read", Bounds.read(x, s.length() == 0 ? "" : s.append(';').toString()), 0);
        int price = x.best(0, (1 << may.length) - 1, 0);
        due("lack of " + Arrays.toString(may), price, x.lack() == 0 ? 0 : -2);
        return x.lack();
    }

    private static void lackSets() {
        holds(31, "the first set of TURNS (of the fewest TURNS, then the one that has the least TURN that is not in both) that together have fewer ENGINES that may than TURNS");
        due("as many as turns", lackOf(2, 3, 3), 0);
        due("one more", lackOf(2, 3, 3, 3), 7);
        due("of one alone: the first", lackOf(2, 3, 0, 0), 2);
        due("of one, though two lack ahead of it", lackOf(2, 1, 1, 0), 4);
        due("of two: 0 and 3, not 1 and 2", lackOf(3, 1, 2, 2, 1), 9);
        due("of two: 0 and 1", lackOf(3, 1, 1, 2, 2), 3);
        due("of two: 1 and 2", lackOf(3, 7, 1, 1, 2, 2), 6);
        due("of three: 0, 1 and 4, not 0, 2 and 3", lackOf(3, 3, 3, 6, 6, 3, 6), 19);
        due("three with two engines, of four the first", lackOf(3, 3, 3, 3, 3), 7);
        due("each its own", lackOf(4, 1, 2, 4, 8), 0);
        due("one and two and three", lackOf(3, 1, 3, 7), 0);
        due("one and two and three and three", lackOf(3, 1, 3, 7, 7), 15);
        due("no turns", lackOf(3), 0);
        EngineShed x = crowd(7, 8);
        due("8 turns, 7 engines", x.best(0, 255, 0), -2);
        due("all 8", x.lack(), 255);
        EngineShed y = crowd(1, 12);
        due("turns 3, 7, 11 with one", y.best(0, 1 << 3 | 1 << 7 | 1 << 11, 0), -2);
        due("3 and 7", y.lack(), 1 << 3 | 1 << 7);
    }

    // ---- lines, clear

    private static void linesOutside() {
        holds(32, "NONE, and nothing happens: 7 are there, no such ENGINE, it is in that row.");
        for (boolean out : new boolean[] {false, true}) {
            for (int e : new int[] {-1, 3, MIN, MAX, 9, 0, 2}) {
                Bounds.refused(Bounds::yard, "lines(" + out + ", " + e + ")", NONE, x -> x.lines(out, e));
            }
            due("the other one, " + out, Bounds.yard().lines(out, 1), 3);
        }
        EngineShed x = crowd(2, 0);
        due("in", x.lines(false, 0), 1);
        due("it is in that row", x.lines(false, 0), NONE);
        due("not in the other", x.lines(true, 0), 1);
        due("now it is", x.lines(true, 0), NONE);
        due("the next", x.lines(false, 1), 2);
        due("the first is in that row yet", x.lines(false, 0), NONE);
        due("one that is not there", x.lines(false, 2), NONE);
        due("now it is there", x.engine(0, 0), 2);
        due("so it comes", x.lines(false, 2), 3);
    }

    private static void linesFull() {
        holds(32, "ENGINES of a row (7 at most)");
        for (boolean out : new boolean[] {false, true}) {
            EngineShed x = crowd(9, 0);
            for (int i = 0; i < 7; i++) due("the " + i + "th, " + out, x.lines(out, 8 - i), i + 1);
            due("an 8th, " + out, x.lines(out, 0), NONE);
            due("an 8th, " + out, x.lines(out, 1), NONE);
            due("one that is there, " + out, x.lines(out, 8), NONE);
            due("the other row is empty", x.lines(!out, 0), 1);
            due("roads", x.roads(1), NONE);
            x.clear();
            due("now there is room", x.lines(out, 0), 1);
        }
        for (boolean out : new boolean[] {false, true}) {
            Bounds.refused(Bounds::fullYard, "an 8th, " + out, NONE, x -> x.lines(out, 1));
            Bounds.refused(Bounds::fullYard, "an 8th, " + out, NONE, x -> x.lines(out, 8));
        }
    }

    private static void clearing() {
        holds(33, "Both rows become empty.");
        EngineShed x = Bounds.yard();
        x.clear();
        due("roads of empty ones", x.roads(1), NONE);
        due("road 0 yet", x.road(0), Bounds.yard().road(0));
        due("road 2 yet", x.road(2), Bounds.yard().road(2));
        due("in", x.lines(false, 0), 1);
        due("roads of a row that is empty", x.roads(1), NONE);
        due("out", x.lines(true, 0), 1);
        due("roads", x.roads(1), 0);
        x.clear();
        x.clear();
        due("roads", x.roads(3), NONE);
        due("out", x.lines(true, 2), 1);
        due("roads", x.roads(1), NONE);
        EngineShed y = new EngineShed();
        y.clear();
        due("nothing else", y.count(1), 0);
        EngineShed full = Bounds.fullYard();
        full.clear();
        for (int i = 0; i < 7; i++) {
            due("in", full.lines(false, i), i + 1);
            due("out", full.lines(true, i), i + 1);
        }
        due("7 in one road", full.roads(1), 6);
    }

    // ---- roads

    private static void roadsOutside() {
        holds(34, "NONE, and nothing happens: no such number, the rows are not of the same ENGINES, empty.");
        for (int many : new int[] {0, -1, 4, MIN, MAX}) {
            Bounds.refused(Bounds::yard, "roads(" + many + ")", NONE, x -> x.roads(many));
            Bounds.refused(Bounds::fullYard, "roads(" + many + ")", NONE, x -> x.roads(many));
            Bounds.refused(Bounds::empty, "roads(" + many + ")", NONE, x -> x.roads(many));
        }
        for (int many = 1; many <= 3; many++) {
            int m = many;
            due("roads(" + many + ")", Bounds.yard().roads(many), 0);
            Bounds.refused(Bounds::empty, "roads(" + many + ") of empty rows", NONE, x -> x.roads(m));
            Bounds.refused(() -> rows("01", "02"), "roads(" + many + ") of others", NONE, x -> x.roads(m));
            Bounds.refused(() -> rows("01", "0"), "roads(" + many + ") of fewer", NONE, x -> x.roads(m));
            Bounds.refused(() -> rows("0", "01"), "roads(" + many + ") of more", NONE, x -> x.roads(m));
            Bounds.refused(() -> rows("0", ""), "roads(" + many + ") of none that go", NONE, x -> x.roads(m));
            Bounds.refused(() -> rows("", "0"), "roads(" + many + ") of none that come", NONE, x -> x.roads(m));
            Bounds.refused(() -> rows("0123456", "0123457"), "roads(" + many + ") of one other", NONE, x -> x.roads(m));
            Bounds.refused(() -> rows("0123456", "012345"), "roads(" + many + ") of one fewer", NONE, x -> x.roads(m));
        }
    }

    /** Rows of the engines of these numbers; the roads of engines 0 and 1 are remembered. */
    private static EngineShed rows(String in, String out) {
        EngineShed x = crowd(9, 0);
        for (int e = 0; e < 2; e++) {
            x.lines(false, e);
            x.lines(true, e);
        }
        x.roads(2);
        x.clear();
        for (int i = 0; i < in.length(); i++) x.lines(false, in.charAt(i) - '0');
        for (int i = 0; i < out.length(); i++) x.lines(true, out.charAt(i) - '0');
        return x;
    }

    private static void roadsRows() {
        holds(34, "ENGINES of a row (7 at most) come in one behind the other, each on a road, ahead of those that are there");
        String[] in = {"8", "01", "01", "012", "012", "0123456", "0123456", "0123456", "0213546"};
        String[] out = {"8", "01", "10", "210", "012", "0123456", "6543210", "1032546", "3210456"};
        int[][] ways = {{0, 0, 0}, {1, 0, 0}, {0, 0, 0}, {0, 0, 0}, {2, 1, 0}, {6, 5, 4}, {0, 0, 0}, {5, 3, 2}, {4, 2, 1}};
        for (int i = 0; i < in.length; i++) {
            for (int many = 1; many <= 3; many++) {
                EngineShed x = rows(in[i], out[i]);
                String call = "roads(" + many + ") of " + in[i] + " and " + out[i];
                int got = x.roads(many);
                due(call + " by trial", got, fewest(in[i], out[i], many, null));
                if (many == 1) due(call, got, ways[i][0]);
            }
        }
        EngineShed x = rows("01", "01");
        due("one road: the second is in the way", x.roads(1), 1);
        due("two roads", x.roads(2), 0);
        due("three roads", x.roads(3), 0);
        EngineShed y = rows("0123456", "0123456");
        due("seven on one road", y.roads(1), 6);
        due("on two", y.roads(2), 5);
        due("on three", y.roads(3), 4);
    }

    /** The fewest in the way by trying all; of these the first is put into first. */
    private static int fewest(String in, String out, int many, int[] first) {
        int length = in.length();
        int least = length + 1;
        int all = 1;
        for (int i = 0; i < length; i++) all *= many;
        for (int code = 0; code < all; code++) {
            int[] road = new int[length];
            int rest = code;
            for (int i = length - 1; i >= 0; i--) {
                road[i] = rest % many;
                rest /= many;
            }
            int ways = 0;
            for (int i = 0; i < length; i++) {
                boolean in1 = false;
                for (int j = 0; j < i; j++) in1 |= road[j] == road[i] && out.indexOf(in.charAt(j)) < out.indexOf(in.charAt(i));
                ways += in1 ? 1 : 0;
            }
            if (ways < least) {
                least = ways;
                if (first != null) System.arraycopy(road, 0, first, 0, length);
            }
        }
        return least;
    }

    private static void roadsFewest() {
        holds(34, "THE ROADS: the fewest IN THE WAY; of these the first (the first one's road the least, then the next one's).");
        String all = "7204863";
        int[] order = {0, 1, 2, 3, 4, 5, 6};
        for (int seed = 0; seed < 40; seed++) {
            StringBuilder out = new StringBuilder(all);
            for (int i = 6; i > 0; i--) {
                int j = (seed * 31 + i * i * 7 + seed * i) % (i + 1);
                char c = out.charAt(i);
                out.setCharAt(i, out.charAt(j));
                out.setCharAt(j, c);
            }
            for (int many = 1; many <= 3; many++) {
                EngineShed x = rows(all, out.toString());
                int[] first = new int[7];
                String call = "roads(" + many + ") of " + all + " and " + out;
                due(call, x.roads(many), fewest(all, out.toString(), many, first));
                for (int i : order) due(call + ", road of " + all.charAt(i), x.road(all.charAt(i) - '0'), first[i]);
            }
        }
    }

    private static void roadOutside() {
        holds(35, "The road of an ENGINE by the latest roads() that was not NONE; NONE: it had none, no such one.");
        EngineShed x = crowd(9, 0);
        for (int e = 0; e < 9; e++) due("no roads() yet, " + e, x.road(e), NONE);
        due("roads of none", x.roads(1), NONE);
        due("none", x.road(0), NONE);
        for (int e : new int[] {8, 0}) {
            x.lines(false, e);
            x.lines(true, 8 - e);
        }
        due("8 and 0 in, 0 and 8 out", x.roads(3), 0);
        due("road of 8", x.road(8), 0);
        due("road of 0", x.road(0), 0);
        for (int e = 1; e < 8; e++) due("it had none, " + e, x.road(e), NONE);
        for (int e : new int[] {-1, 9, MIN, MAX}) due("road(" + e + ")", x.road(e), NONE);
        due("no such number", x.roads(4), NONE);
        due("road of 8 yet", x.road(8), 0);
        x.clear();
        for (int e : new int[] {1, 2, 3}) {
            x.lines(false, e);
            x.lines(true, e);
        }
        due("other rows", x.roads(3), 0);
        due("road of 8: it had none", x.road(8), NONE);
        due("road of 0: it had none", x.road(0), NONE);
        for (int e = 1; e <= 3; e++) due("road of " + e, x.road(e), e - 1);
        x.lines(false, 4);
        due("not of the same", x.roads(3), NONE);
        due("road of 3 yet", x.road(3), 2);
        due("road of 4", x.road(4), NONE);
        for (int e : new int[] {-1, 3, 1, MIN, MAX}) Bounds.refused(Bounds::yard, "road(" + e + ")", NONE, y -> y.road(e));
        EngineShed y = crowd(1, 0);
        y.lines(false, 0);
        y.lines(true, 0);
        y.roads(1);
        y.engine(0, 0);
        due("one that was not there", y.road(1), NONE);
    }

    // ---- may

    private static void mayOutside() {
        holds(36, "A CLASS may work a TURN in MONTHS, or not (at first all may): true; false: no such ones.");
        int[][] yes = {{0, 0}, {5, 0}, {0, 4}, {5, 4}};
        for (int[] a : yes) {
            for (boolean is : new boolean[] {false, true}) due("may" + Arrays.toString(a) + " " + is, Bounds.yard().may(a[0], a[1], is), true);
        }
        int[][] no = {{-1, 0}, {6, 0}, {MIN, 0}, {MAX, 0}, {0, -1}, {0, 5}, {0, MIN}, {0, MAX}, {-1, -1}, {6, 5}, {32, 0}};
        for (int[] a : no) {
            for (boolean is : new boolean[] {false, true}) {
                Bounds.refused(Bounds::yard, "may" + Arrays.toString(a) + " " + is, 0, x -> x.may(a[0], a[1], is) ? 1 : 0);
            }
        }
        EngineShed x = crowd(2, 1);
        due("a turn that is not there", x.may(0, 1, false), false);
        due("a turn", x.turn(0, 0, 1, 2, 5, 0, 0, false), 1);
        due("at first all may", x.months(1, 1, 1, 2, 0), 0);
    }

    private static void mayTable() {
        holds(36, "(at first all may)");
        EngineShed x = new EngineShed();
        x.shed();
        for (int c = 0; c < 6; c++) x.engine(c, 0);
        x.engine(0, 0);
        for (int t = 0; t < 12; t++) x.turn(0, 0, 1, 2, 5, t, 0, false);
        due("at first", x.months(1, 1, 1, 15, 0), 0);
        for (int c = 1; c < 6; c++) due("class " + c + " may not work turn 11", x.may(c, 11, false), true);
        due("class 0 may: engine 6 works it while engine 0 is away", x.months(1, 1, 1, 2048, 0), 0);
        due("both are away", x.months(65, 1, 2, 2048, 0), -2);
        due("one behind the other", x.months(65, 2, 2, 2048, 0), 0);
        due("month of 0", x.month(0), 0);
        due("month of 6", x.month(6), 1);
        due("another turn", x.months(65, 1, 2, 1024, 0), 0);
        x.may(0, 11, false);
        due("none may", x.months(2, 1, 1, 2048, 0), -2);
        x.may(0, 11, false);
        x.may(5, 11, true);
        x.may(5, 11, true);
        due("class 5 may again", x.months(2, 1, 1, 2048, 0), 0);
        due("it is away", x.months(32, 1, 1, 2048, 0), -2);
        due("the others of turn 10 may", x.months(32, 1, 1, 1024, 0), 0);
        // best() does not ask what may() told.
        due("best", x.best(0, 2048, 0), 0);
        due("given(11)", x.given(11), 0);
    }

    // ---- months

    private static void monthsOutside() {
        holds(37, "NONE, and nothing happens: no such ones (1 .. 5 ENGINES, 8 TURNS at most).");
        int[][] no = {{0, 1, 1, 1, 0}, {-1, 1, 1, 1, 0}, {8, 1, 1, 1, 0}, {9, 1, 1, 1, 0}, {MIN, 1, 1, 1, 0}, {MAX, 1, 1, 1, 0},
            {1, 0, 1, 1, 0}, {1, 6, 1, 1, 0}, {1, -1, 1, 1, 0}, {1, MIN, 1, 1, 0}, {1, MAX, 1, 1, 0}, {1, 1, 0, 1, 0}, {1, 1, 6, 1, 0},
            {1, 1, -1, 1, 0}, {1, 1, MIN, 1, 0}, {1, 1, MAX, 1, 0}, {1, 1, 1, -1, 0}, {1, 1, 1, 32, 0}, {1, 1, 1, MIN, 0},
            {1, 1, 1, MAX, 0}, {1, 1, 1, 1, -1}, {1, 1, 1, 1, 2}, {1, 1, 1, 1, MIN}, {1, 1, 1, 1, MAX}};
        for (int[] a : no) {
            Bounds.refused(Bounds::yard, "months" + Arrays.toString(a), NONE, x -> x.months(a[0], a[1], a[2], a[3], a[4]));
        }
        Bounds.refused(Bounds::fullYard, "6 engines", NONE, x -> x.months(63, 5, 5, 1, 0));
        Bounds.refused(Bounds::fullYard, "all 9 engines", NONE, x -> x.months(511, 5, 5, 1, 0));
        Bounds.refused(Bounds::fullYard, "a 10th engine", NONE, x -> x.months(512, 5, 5, 1, 0));
        Bounds.refused(Bounds::fullYard, "9 turns", NONE, x -> x.months(1, 5, 5, 511, 0));
        Bounds.refused(Bounds::fullYard, "a 13th turn", NONE, x -> x.months(1, 5, 5, 4096, 0));
        int[][] yes = {{1, 1, 1, 0, 0}, {1, 5, 5, 0, 1}, {4, 1, 1, 0, 0}, {4, 5, 1, 16, 0}, {7, 5, 5, 0, 0}, {1, 1, 5, 2, 1}};
        for (int[] a : yes) due("months" + Arrays.toString(a), Bounds.yard().months(a[0], a[1], a[2], a[3], a[4]), 0);
    }

    private static void monthsMany() {
        holds(37, "ENGINES of a set (5 at most), each in the SHOPS for one of W months (1 .. 5), P (1 .. 5) at most in one");
        EngineShed x = crowd(9, 12);
        due("5 engines", x.months(31, 5, 1, 0, 0), 0);
        for (int e = 0; e < 9; e++) due("month of " + e, x.month(e), e < 5 ? e : NONE);
        due("the last 5", x.months(31 << 4, 5, 1, 0, 0), 0);
        for (int e = 0; e < 9; e++) due("month of " + e, x.month(e), e < 4 ? NONE : e - 4);
        due("6 engines", x.months(63, 5, 5, 0, 0), NONE);
        due("the last one", x.months(256, 1, 1, 0, 0), 0);
        due("8 turns", x.months(1, 1, 1, 255 << 4, 0), 0);
        due("9 turns", x.months(1, 1, 1, 511, 0), NONE);
        due("5 in one month", x.months(31, 1, 5, 0, 0), 0);
        for (int e = 0; e < 5; e++) due("month of " + e, x.month(e), 0);
    }

    private static void monthsRoom() {
        holds(37, "remembered: 0; -2: there are none.");
        EngineShed x = crowd(9, 1);
        for (int many = 1; many <= 5; many++) {
            for (int w = 1; w <= 5; w++) {
                for (int p = 1; p <= 5; p++) {
                    int got = x.months((1 << many) - 1, w, p, 1, 0);
                    due(many + " engines, " + w + " months, " + p + " in one", got, many <= w * p ? 0 : -2);
                    for (int e = 0; e < many && got == 0; e++) due("month of " + e, x.month(e), e / p);
                }
            }
        }
    }

    private static void monthsTurns() {
        holds(37, "told TURNS (8 at most) have one each that is of a CLASS that may (a told table of CLASSES and TURNS)");
        EngineShed x = crowd(9, 8);
        due("8 turns, 9 engines, one away", x.months(1, 1, 1, 255, 0), 0);
        due("two away", x.months(3, 1, 2, 255, 0), -2);
        due("two away, one behind the other", x.months(3, 2, 2, 255, 0), 0);
        due("five away, in 5 months", x.months(31, 5, 5, 255, 0), 0);
        due("five away, in 4 months", x.months(31, 4, 5, 255, 0), -2);
        due("five away, in 4 months, 7 turns", x.months(31, 4, 5, 254, 0), 0);
        int[] months = {0, 0, 1, 1, 2};
        for (int e = 0; e < 5; e++) due("month of " + e, x.month(e), months[e]);
        due("five away, in 1 month, 4 turns", x.months(31, 1, 5, 15, 0), 0);
        due("five away, in 1 month, 5 turns", x.months(31, 1, 5, 31, 0), -2);
        EngineShed y = crowd(1, 1);
        due("none left, no turns", y.months(1, 1, 1, 0, 0), 0);
        due("none left, a turn", y.months(1, 1, 1, 1, 0), -2);
        // Where engines stand, fail or are lent is no matter, nor what bars tell.
        EngineShed z = Bounds.sheds(2);
        turn(z, 0, 1, 1, 2);
        z.fails(1, 0, 0);
        Bounds.read(z, "bar b if 1 < 2;");
        due("the other one works it", z.months(1, 1, 1, 1, 0), 0);
    }

    private static void monthsFailing() {
        holds(37, "whichever f (0, 1) of all other ENGINES fail (none, if there is none other)");
        EngineShed x = crowd(9, 8);
        due("8 turns, 9 engines, one away, one fails", x.months(1, 1, 1, 255, 1), -2);
        due("7 turns", x.months(1, 1, 1, 127, 1), 0);
        due("two away, 7 turns", x.months(3, 1, 2, 127, 1), -2);
        due("two away, 6 turns", x.months(3, 1, 2, 63, 1), 0);
        EngineShed y = crowd(1, 1);
        due("none other, no turns", y.months(1, 1, 1, 0, 1), 0);
        due("none other, a turn", y.months(1, 1, 1, 1, 1), -2);
        EngineShed z = crowd(2, 1);
        due("one other, no turns", z.months(1, 1, 1, 0, 1), 0);
        due("one other, a turn, none fails", z.months(1, 1, 1, 1, 0), 0);
        due("one other, a turn, it fails", z.months(1, 1, 1, 1, 1), -2);
        due("both away, no turns", z.months(3, 1, 2, 0, 1), 0);
        EngineShed w = crowd(3, 1);
        due("two others, a turn, one fails", w.months(1, 1, 1, 1, 1), 0);
        due("which may not work it", w.may(0, 0, false), true);
        due("none may", w.months(1, 1, 1, 1, 1), -2);
        w.engine(1, 0);
        due("one may: it fails", w.months(1, 1, 1, 1, 1), -2);
        due("one may", w.months(1, 1, 1, 1, 0), 0);
        w.engine(1, 0);
        due("two may", w.months(1, 1, 1, 1, 1), 0);
        due("one of them is away", w.months(8, 1, 1, 1, 1), -2);
        due("one of them is away, none fails", w.months(8, 1, 1, 1, 0), 0);
    }

    private static void monthsFirst() {
        holds(37, "THE MONTHS: the first (the least ENGINE's month the least, then the next one's).");
        EngineShed x = new EngineShed();
        x.shed();
        for (int c : new int[] {0, 1, 0, 1, 2}) x.engine(c, 0);
        for (int t = 0; t < 2; t++) x.turn(0, 0, 1, 2, 5, t, 0, false);
        for (int c = 0; c < 3; c++) {
            x.may(c, 0, c == 0);
            x.may(c, 1, c == 1);
        }
        // Engines 0 and 2 may work turn 0, 1 and 3 turn 1.
        due("all of them, two at most", x.months(31, 3, 2, 3, 0), 0);
        int[] want = {0, 0, 1, 1, 2};
        for (int e = 0; e < 5; e++) due("month of " + e, x.month(e), want[e]);
        due("three at most", x.months(31, 3, 3, 3, 0), 0);
        int[] three = {0, 0, 1, 1, 0};
        for (int e = 0; e < 5; e++) due("month of " + e, x.month(e), three[e]);
        due("turn 0 alone", x.months(31, 2, 5, 1, 0), 0);
        int[] one = {0, 0, 1, 0, 0};
        for (int e = 0; e < 5; e++) due("month of " + e, x.month(e), one[e]);
        due("two months, two at most: there are none", x.months(31, 2, 2, 3, 0), -2);
        EngineShed y = crowd(0, 1);
        for (int c = 0; c < 4; c++) y.engine(c, 0);
        y.may(0, 0, false);
        y.may(1, 0, false);
        // 2 and 3 may not be away in one month, so 0 and 1 may not be, either.
        due("two months, two at most, that are found late", y.months(15, 2, 2, 1, 0), 0);
        for (int e = 0; e < 4; e++) due("month of " + e, y.month(e), e % 2);
        due("0 and 2 and 4, one at most", x.months(21, 5, 1, 3, 0), 0);
        int[] some = {0, NONE, 1, NONE, 2};
        for (int e = 0; e < 5; e++) due("month of " + e, x.month(e), some[e]);
    }

    /** Six engines of six classes, six turns; tables that a seed tells; each asked is also tried out in all ways. */
    private static void monthsByTrial() {
        holds(37, "in each month and whichever f (0, 1) of all other ENGINES fail (none, if there is none other), told TURNS (8 at most) have one each");
        int found = 0;
        for (int seed = 0; seed < 60; seed++) {
            java.util.Random random = new java.util.Random(seed);
            EngineShed x = new EngineShed();
            x.shed();
            for (int c = 0; c < 6; c++) x.engine(c, 0);
            int[] may = new int[4];
            for (int t = 0; t < 4; t++) {
                x.turn(0, 0, 1, 2, 5, t, 0, false);
                int one = random.nextInt(64);
                int other = random.nextInt(64);
                // Every second table is a sparse one: then the first try is often not the last.
                may[t] = seed % 2 == 0 ? one | other : one & other | 1 << random.nextInt(6) | 1 << random.nextInt(6);
                for (int c = 0; c < 6; c++) x.may(c, t, (may[t] >> c & 1) != 0);
            }
            for (int i = 0; i < 12; i++) {
                int set = 1 + random.nextInt(62);
                int w = 1 + random.nextInt(5);
                int p = 1 + random.nextInt(3);
                int turns = random.nextInt(16);
                int f = random.nextInt(2);
                int[] first = new int[6];
                boolean is = tryMonths(may, set, w, p, turns, f, first);
                String call = "seed " + seed + ", months(" + set + ", " + w + ", " + p + ", " + turns + ", " + f + ")";
                if (Integer.bitCount(set) > 5) continue;
                due(call, x.months(set, w, p, turns, f), is ? 0 : -2);
                for (int e = 0; e < 6 && is; e++) due(call + ", month of " + e, x.month(e), first[e]);
                found += is ? 1 : 0;
            }
        }
        due("months that were found, 100 at least", Math.min(100, found), 100);
    }

    private static boolean tryMonths(int[] may, int set, int w, int p, int turns, int f, int[] first) {
        int many = Integer.bitCount(set);
        int all = 1;
        for (int i = 0; i < many; i++) all *= w;
        for (int code = 0; code < all; code++) {
            int rest = code;
            int[] away = new int[w];
            Arrays.fill(first, NONE);
            for (int e = 5; e >= 0; e--) {
                if ((set >> e & 1) == 0) continue;
                first[e] = rest % w;
                away[rest % w] |= 1 << e;
                rest /= w;
            }
            boolean fine = true;
            for (int gone : away) {
                fine &= Integer.bitCount(gone) <= p;
                int others = 63 & ~gone;
                if (f == 0 || others == 0) fine &= works(may, turns, 0, others);
                else for (int e = 0; e < 6; e++) if ((others >> e & 1) != 0) fine &= works(may, turns, 0, others & ~(1 << e));
            }
            if (fine) return true;
        }
        return false;
    }

    private static boolean works(int[] may, int turns, int t, int engines) {
        if (t == may.length) return true;
        if ((turns >> t & 1) == 0) return works(may, turns, t + 1, engines);
        for (int e = 0; e < 6; e++) {
            if ((may[t] & engines & 1 << e) != 0 && works(may, turns, t + 1, engines & ~(1 << e))) return true;
        }
        return false;
    }

    private static void monthStays() {
        holds(38, "The month of an ENGINE by the latest months() that was 0; NONE: it has none, no such one.");
        EngineShed x = crowd(9, 9);
        for (int e = 0; e < 9; e++) due("no months() yet, " + e, x.month(e), NONE);
        due("-2", x.months(1, 1, 1, 255, 1), -2);
        for (int e = 0; e < 9; e++) due("none yet, " + e, x.month(e), NONE);
        due("0", x.months(257, 2, 1, 1, 0), 0);
        for (int e = 0; e < 9; e++) due("month of " + e, x.month(e), e == 0 ? 0 : e == 8 ? 1 : NONE);
        for (int e : new int[] {-1, 9, MIN, MAX}) due("month(" + e + ")", x.month(e), NONE);
        due("-2", x.months(3, 1, 1, 1, 0), -2);
        due("NONE", x.months(0, 1, 1, 1, 0), NONE);
        due("NONE", x.months(1, 1, 1, 511, 0), NONE);
        for (int e = 0; e < 9; e++) due("month of " + e + " yet", x.month(e), e == 0 ? 0 : e == 8 ? 1 : NONE);
        due("0", x.months(2, 2, 1, 1, 0), 0);
        for (int e = 0; e < 9; e++) due("month of " + e + " then", x.month(e), e == 1 ? 0 : NONE);
        for (int e : new int[] {-1, 3, 1, MIN, MAX}) Bounds.refused(Bounds::yard, "month(" + e + ")", NONE, y -> y.month(e));
        EngineShed y = crowd(1, 0);
        y.months(1, 1, 1, 0, 0);
        y.engine(0, 0);
        due("one that was not there", y.month(1), NONE);
        due("the other one", y.month(0), 0);
        holds(37, "Where NONE and -2 could both be told, it is NONE, if it is not told otherwise.");
        EngineShed z = crowd(1, 9);
        due("6 months that are none", z.months(1, 6, 1, 1, 0), NONE);
        due("9 turns that lack", z.best(0, 511, 0), NONE);
        due("two that lack", z.best(0, 3, 0), -2);
        due("on no day", z.best(120, 3, 0), NONE);
        due("as known by no such n", z.causes(1), NONE);
    }

    // ---- causes

    /** Engines of the classes 0 .. many - 1 at the sheds 0 .. many - 1 fail on day 0: each has two causes of its own. */
    private static EngineShed failing(int many) {
        EngineShed x = new EngineShed();
        for (int i = 0; i < 5; i++) x.shed();
        for (int i = 0; i < many; i++) {
            x.engine(i, i);
            x.fails(i, 0, i);
        }
        return x;
    }

    private static void causesOutside() {
        holds(39, "NONE: no such n.");
        for (int n : new int[] {-1, 13, MIN, MAX}) {
            Bounds.refused(Bounds::yard, "causes(" + n + ")", NONE, x -> x.causes(n));
            Bounds.refused(Bounds::yard, "cause(" + n + ", 0)", NONE, x -> x.cause(n, 0));
        }
        due("causes(0)", Bounds.yard().causes(0), 0);
        due("causes(5)", Bounds.yard().causes(5), 0);
        due("causes(6)", Bounds.yard().causes(6), 2);
        due("causes(12)", Bounds.yard().causes(12), 2);
        due("by all 180", Bounds.fullYard().causes(180), 2);
        due("by 181", Bounds.fullYard().causes(181), NONE);
    }

    private static void causesNone() {
        holds(39, "(0: no FAILS that did something)");
        EngineShed x = Bounds.sheds(2);
        due("nothing", x.causes(0), 0);
        x.shops(0, 0, 5);
        x.fails(0, 3, 0);
        due("one in the shops", x.causes(2), 0);
        due("its cause", x.cause(2, 0), NONE);
        x.fails(0, 5, 0);
        due("one out of the shops", x.causes(3), 2);
        due("as known by 2", x.causes(2), 0);
        x.fails(0, 6, 0);
        due("one that is failed", x.causes(4), 2);
        x.shops(0, 4, 9);
        due("shops in the shops", x.causes(5), 2);
        x.fails(0, 0, 0);
        due("behind the shops of its day: it did nothing", x.causes(6), 2);
    }

    private static void causesThree() {
        holds(39, "-2: none of 3 at most");
        int[] many = {0, 2, 4, 8, -2, -2};
        for (int i = 0; i <= 5; i++) {
            EngineShed x = failing(i);
            due(i + " of two causes each", x.causes(i), many[i]);
            due("the first of them", x.cause(i, 0), i == 0 || i > 3 ? NONE : (1 << i) - 1);
        }
        EngineShed x = failing(5);
        for (int n = 0; n <= 5; n++) due("by " + n, x.causes(n), many[n]);
        EngineShed y = failing(4);
        due("four", y.causes(4), -2);
        y.engine(3, 2);
        y.fails(4, 0, 0);
        due("a fifth takes none away", y.causes(5), -2);
        EngineShed z = failing(3);
        z.engine(0, 1);
        z.fails(3, 0, 0);
        due("three, and one of class 0 at shed 1", z.causes(4), 6);
    }

    private static void causesBits() {
        holds(40, "CAUSES: CLASSES 0 .. 5, SHEDS (8 and its number), MEN (16 and its number)");
        for (int clas = 0; clas < 6; clas++) {
            for (int shed = 0; shed < 5; shed++) {
                EngineShed x = new EngineShed();
                for (int i = 0; i < 5; i++) x.shed();
                for (int i = 0; i < 8; i++) x.man(255);
                x.engine(clas, shed);
                x.turn(shed, (shed + 1) % 5, 1, 2, 5, 0, 0, false);
                x.fails(0, 0, 0);
                due("class " + clas + ", shed " + shed, x.causes(1), 2);
                due("the first", x.cause(1, 0), 1 << clas);
                due("the second", x.cause(1, 1), 1 << 8 + shed);
                due("no third", x.cause(1, 2), NONE);
                int man = (clas * 5 + shed) % 8;
                x.fact(2, 0, 1);
                x.run(0, 0, man, 1);
                x.fails(0, 1, 0);
                due("both fails", x.causes(4), 2);
                EngineShed y = new EngineShed();
                for (int i = 0; i < 5; i++) y.shed();
                for (int i = 0; i < 8; i++) y.man(255);
                y.engine(clas, shed);
                y.turn(shed, (shed + 1) % 5, 1, 2, 5, 0, 0, false);
                y.run(0, 0, man, 119);
                y.fails(0, 119, 23);
                due("with man " + man, y.causes(2), 3);
                due("the class", y.cause(2, 0), 1 << clas);
                due("the shed from which it ran", y.cause(2, 1), 1 << 8 + shed);
                due("the man", y.cause(2, 2), 1 << 16 + man);
                due("no fourth", y.cause(2, 3), NONE);
            }
        }
    }

    private static void causesOfFails() {
        holds(39, "each has a CLASS, the SHED at which it then stood, and the MAN of its last RUN of that DAY (or none)");
        EngineShed x = Bounds.sheds(3);
        turn(x, 0, 1, 1, 2);
        turn(x, 1, 2, 3, 4);
        x.run(0, 0, 1, 0);
        x.run(0, 1, 2, 0);
        x.fails(0, 0, 0);
        due("of two runs the last one's", x.causes(3), 3);
        due("shed 1", x.cause(3, 1), 1 << 9);
        due("man 2", x.cause(3, 2), 1 << 18);
        EngineShed y = Bounds.sheds(3);
        turn(y, 0, 1, 1, 2);
        y.run(0, 0, 1, 0);
        y.fails(0, 1, 0);
        due("its run was on the day ahead: no man", y.causes(2), 2);
        due("shed 1", y.cause(2, 1), 1 << 9);
        EngineShed z = Bounds.sheds(3);
        turn(z, 1, 0, 1, 2);
        z.run(0, 0, 1, 0);
        z.fails(0, 0, 0);
        due("a void run has no man", z.causes(2), 2);
        EngineShed w = Bounds.sheds(3);
        w.lent(0, 2, 0);
        w.fails(0, 0, 0);
        w.fact(2, 0, 0);
        w.lent(0, 1, 0);
        due("where it stood then, not where it is", w.cause(4, 1), 1 << 10);
        w.fails(0, 0, 1);
        due("twice: the class", w.causes(5), 1);
        due("it", w.cause(5, 0), 1);
        EngineShed v = Bounds.sheds(3);
        turn(v, 0, 1, 1, 2);
        turn(v, 0, 1, 3, 4);
        v.run(0, 0, 1, 0);
        v.fails(0, 0, 0);
        v.fact(2, 0, 0);
        v.fails(0, 0, 1);
        due("a second one of the same causes counts once", v.causes(4), 3);
    }

    private static void causeOutside() {
        holds(40, "NONE: not so many, no such n.");
        EngineShed x = failing(3);
        due("the last", x.cause(3, 7) == NONE ? 1 : 0, 0);
        for (int i : new int[] {8, 9, -1, MIN, MAX}) due("cause(3, " + i + ")", x.cause(3, i), NONE);
        for (int i : new int[] {2, -1, MAX}) due("cause(1, " + i + ")", x.cause(1, i), NONE);
        due("cause(1, 1)", x.cause(1, 1), 1 << 8);
        for (int n : new int[] {4, -1, MIN, MAX}) due("cause(" + n + ", 0)", x.cause(n, 0), NONE);
        due("of none", x.cause(0, 0), NONE);
        EngineShed y = failing(4);
        due("of none of 3 at most", y.cause(4, 0), NONE);
        int[][] no = {{12, 2}, {12, -1}, {12, MIN}, {12, MAX}, {0, 0}, {5, 0}, {13, 0}, {-1, 0}, {6, 2}};
        for (int[] a : no) Bounds.refused(Bounds::yard, "cause" + Arrays.toString(a), NONE, z -> z.cause(a[0], a[1]));
        due("in the yard", Bounds.yard().cause(12, 1), 1 << 8);
    }

    private static void causeOrder() {
        holds(40, "and the i-th (by bits, the least CAUSE that is not in both first)");
        EngineShed x = failing(3);
        int[][] sets = {{0, 1, 2}, {0, 1, 10}, {0, 2, 9}, {0, 9, 10}, {1, 2, 8}, {1, 8, 10}, {2, 8, 9}, {8, 9, 10}};
        for (int i = 0; i < 8; i++) due("the " + i + "th", x.cause(3, i), 1 << sets[i][0] | 1 << sets[i][1] | 1 << sets[i][2]);
        int[] two = {3, 1 | 1 << 9, 2 | 1 << 8, 1 << 8 | 1 << 9};
        for (int i = 0; i < 4; i++) due("of two the " + i + "th", x.cause(2, i), two[i]);
        holds(39, "of the fewest");
        EngineShed y = failing(3);
        y.engine(1, 0);
        y.engine(2, 0);
        due("three of shed 0", y.fails(3, 0, 0), 3);
        due("two sets of the fewest", y.causes(4), 6);
        due("all of shed 0 and two more", y.fails(4, 0, 0), 4);
        due("sets of three", y.causes(5), 5);
        EngineShed z = new EngineShed();
        for (int i = 0; i < 5; i++) z.shed();
        for (int i = 0; i < 5; i++) {
            z.engine(i, 4);
            z.fails(i, 0, 0);
        }
        due("all at one shed", z.causes(5), 1);
        due("the shed", z.cause(5, 0), 1 << 12);
        due("one alone", z.causes(1), 2);
    }
}
