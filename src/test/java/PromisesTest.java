/** For each promise of the document: ordinary inputs, the edges that it names, and wrong inputs. */
public final class PromisesTest {
    private static int wrong = 0;
    private static int checks = 0;
    private static int promise = 0;

    private static void due(String what, int got, int want) {
        checks++;
        if (got != want) {
            wrong++;
            System.out.println("promise " + promise + ": " + what + " answered " + got + ", due is " + want);
        }
    }

    private static void due(String what, boolean got, boolean want) {
        due(what, got ? 1 : 0, want ? 1 : 0);
    }

    /** Puts just the bytes of a text onto the tape. */
    private static void put(EngineShed x, String s) {
        for (int at = 0; at < s.length(); at += 20) {
            int[] w = new int[5];
            for (int i = 0; i < 20; i++) w[i / 4] = w[i / 4] << 8 | (at + i < s.length() ? s.charAt(at + i) & 255 : 32);
            x.feed(w[0], w[1], w[2], w[3], w[4]);
        }
        x.back((20 - s.length() % 20) % 20);
    }

    private static int read(EngineShed x, String s) {
        put(x, s);
        return x.read();
    }

    private static void reads(String s, int fault, int place) {
        EngineShed x = new EngineShed();
        String shown = s.length() > 60 ? s.substring(0, 60) + ".." : s;
        due("read of '" + shown + "'", read(x, s), fault);
        due("place of '" + shown + "'", x.place(), place);
        due("texts behind '" + shown + "'", x.count(5), fault == 0 ? 1 : 0);
        due("bytes behind '" + shown + "'", x.count(6), 0);
    }

    /** Three sheds, three engines (classes 0, 1, 0; homes 0, 0, 1), two men (all lines; lines 0 and 1). */
    private static EngineShed board() {
        EngineShed x = new EngineShed();
        for (int i = 0; i < 3; i++) x.shed();
        x.engine(0, 0);
        x.engine(1, 0);
        x.engine(0, 1);
        x.man(255);
        x.man(3);
        return x;
    }

    /** A board with turns 0: 0 to 1, 6 .. 10, 100 miles; 1: 1 to 0, 10 .. 14, 61 miles; 2: spare at 0, 4 .. 12. */
    private static EngineShed lineBoard() {
        EngineShed x = board();
        x.turn(0, 1, 6, 10, 100, 50, 0, false);
        x.turn(1, 0, 10, 14, 61, 20, 0, false);
        x.turn(0, 0, 4, 12, 0, 0, 0, true);
        return x;
    }

    private static String times(String s, int n) {
        return s.repeat(n);
    }

    private static String letters(int i) {
        return "" + (char) ('a' + i / 26) + (char) ('a' + i % 26);
    }

    public static void main(String[] args) {
        promise1();
        promise2and3();
        promise4and5();
        promise4rooms();
        promise4effects();
        promise6to10();
        promise11to17();
        promise18and19();
        promise20washes();
        promise20shops();
        promise20worn();
        promise20mornings();
        promise20fails();
        promise20lent();
        promise21();
        promise21men();
        promise22();
        promise22amounts();
        promise23();
        promise24and25();
        promise26();
        promise27();
        promise28();
        promise29to31();
        promise29prices();
        promise31lacks();
        promise32to35();
        promise36to38();
        promise39and40();
        promise41();
        promise42();
        System.out.println(checks + " checks, " + wrong + " wrong");
        if (wrong != 0) System.exit(1);
    }

    private static void promise1() {
        promise = 1;
        EngineShed x = new EngineShed();
        for (int what = 0; what <= 6; what++) due("count(" + what + ")", x.count(what), 0);
        due("NONE", EngineShed.NONE, -1);
        due("place", x.place(), -1);
        due("lack", x.lack(), -1);
        due("rules(119)", x.rules(119), 0);
        due("state", x.state(0, 0, 0, 0), -1);
        due("causes(0)", x.causes(0), 0);
    }

    private static void promise2and3() {
        promise = 2;
        EngineShed x = new EngineShed();
        for (int i = 1; i <= 100; i++) due("feed " + i, x.feed(0, 0, 0, 0, 0), 20 * i);
        due("feed beyond 2000", x.feed(0, 0, 0, 0, 0), -1);
        due("bytes", x.count(6), 2000);
        promise = 3;
        due("back(19)", x.back(19), 1981);
        due("feed into 1981", x.feed(1, 2, 3, 4, 5), -1);
        due("back(-1)", x.back(-1), -1);
        due("back(1982)", x.back(1982), -1);
        due("back(0)", x.back(0), 1981);
        due("back(1981)", x.back(1981), 0);
        due("back(1)", x.back(1), -1);
        due("back least", x.back(Integer.MIN_VALUE), -1);
        promise = 2;
        // 'bar ' 'a if' ' 1==' '1;  ' '    ': the highest byte of a comes first.
        x.feed(0x62617220, 0x61206966, 0x20313D3D, 0x313B2020, 0x20202020);
        due("read of what was fed", x.read(), 0);
        due("its rule", x.rule(0, 0, 0), 0);
    }

    private static void promise4and5() {
        promise = 4;
        reads("", 0, -1);
        reads(" \t\r\n", 0, -1);
        reads("from 119;", 0, -1);
        reads("from 0119 ; bar a if 1<2;", 0, -1);
        reads("bar a if 1<2;due b if not not day==1 or 1!=2 and 3<=4;wear c 1;coal d(1)if 2<3;price abcdefgh 9999;strike x;", 0, -1);
        reads("wear a day+class-miles*days/looked+worn+load+line+hours+far+lent+spare;", 0, -1);
        reads("from 120;", 5, 5);
        reads("  from   9999 ; bar a if 1<2;", 5, 9);
        reads("from 120; bar", 1, 13);
        reads("from;", 1, 4);
        reads("from 1", 1, 6);
        reads("from 1  ", 1, 8);
        reads("from 1; from 2;", 1, 8);
        reads("bar a if 1<2; from 2;", 1, 14);
        reads("bar if if 1<2;", 1, 4);
        reads("bar day if 1<2;", 1, 4);
        reads("bar from if 1<2;", 1, 4);
        reads("bar abcdefghi if 1<2;", 1, 4);
        reads("wear a 12345;", 1, 7);
        reads("wear a 00000;", 1, 7);
        reads("wear a1;", 0, -1);
        reads("wear a 1b;", 1, 8);
        reads("wear ab c;", 1, 8);
        reads("wearab 1;", 1, 0);
        reads("bar a 1<2;", 1, 6);
        reads("bar a if 1;", 1, 10);
        reads("bar a if 1<2<3;", 1, 12);
        reads("bar a if 1<2+;", 1, 13);
        reads("bar a if (1<2);", 1, 11);
        reads("bar a if not (1)<2;", 0, -1);
        reads("bar a if 1<2 and;", 1, 16);
        reads("bar a if 1=2;", 1, 10);
        reads("bar a if 1=", 1, 10);
        reads("bar a if 1===2;", 1, 12);
        reads("bar a if 1 ! = 2;", 1, 11);
        reads("bar a if 1 < = 2;", 1, 13);
        reads("bar a if 1 > 2;", 1, 11);
        reads("bar a if 1<2", 1, 12);
        reads("wear a 1 and 2;", 1, 9);
        reads("wear a not 1;", 1, 7);
        reads("wear a -1;", 1, 7);
        reads("wear a (1;", 1, 9);
        reads("wear a 1);", 1, 8);
        reads("wear a ();", 1, 8);
        reads("wear a (?1);", 1, 8);
        reads("wear a (1)?;", 1, 10);
        reads("bar a if not ? 1<2;", 1, 13);
        reads("bar a if not abcdefghi 1<2;", 1, 13);
        reads("wear a (abcdefghi);", 1, 8);
        reads("wear a (12345);", 1, 8);
        reads("bar a if (not 1)<2;", 1, 10);
        reads("bar a if 1<2;?bar", 1, 13);
        reads("bar bar", 1, 4);
        reads("wear a ;", 1, 7);
        reads("wear a 1 if;", 1, 11);
        reads("wear a 1 if 1;", 1, 13);
        reads("wear a 1 if 2<3 if 2<3;", 1, 16);
        reads("strike a if 1<2;", 1, 9);
        reads("strike ;", 1, 7);
        reads("Bar a if 1<2;", 1, 0);
        reads("bar a if 1<2;.", 1, 13);
        reads(";", 1, 0);
        reads("bar a\u000bif 1<2;", 1, 5);
        reads("bar a\u0000if 1<2;", 1, 5);
        reads("bar \u00e9 if 1<2;", 1, 4);
    }

    private static void promise4rooms() {
        promise = 4;
        String sum = "wear a 1" + times("+1", 198);
        reads(sum + ";", 0, -1);
        reads(sum + ";" + " ", 0, -1);
        // 4 + 2 * 198 = 400 tokens; the 401st stands at the next rule, and where the text lacks its end.
        reads(sum + "; strike", 2, sum.length() + 2);
        reads(sum + "; ?", 1, sum.length() + 2);
        reads(sum + "+1;", 2, sum.length() + 1);
        reads("wear a (1)" + times("+1", 197) + " ;", 0, -1);
        reads("wear a (1)" + times("+1", 198) + " ;", 2, 10 + 396 - 1);
        reads("wear a 1 if" + times(" not", 396), 1, 11 + 4 * 396);
        reads("wear a 1 if" + times(" not", 397), 2, 11 + 4 * 396 + 1);
        reads("wear a 1 if" + times(" not", 393) + " 1<", 1, 11 + 4 * 393 + 3);
        reads("wear a 1 if" + times(" not", 392) + " 1<2;", 0, -1);
        String rules = times("strike a;", 24);
        reads(rules, 0, -1);
        reads(rules + " strike a;", 2, 24 * 9 + 1);
        reads(rules + " bar ?", 2, 24 * 9 + 1);
        reads(rules + " ? strike", 1, 24 * 9 + 1);
        reads("wear a " + times("(", 6) + "1" + times(")", 6) + ";", 0, -1);
        reads("wear a " + times("(", 7) + "1" + times(")", 7) + ";", 2, 13);
        reads("wear a " + times("(", 6) + "1)+(1" + times(")", 6) + ";", 0, -1);
        reads("wear a " + times("(", 6) + "1+(1", 2, 15);
        reads("from 120; wear a " + times("(", 7), 2, 23);
    }

    private static void promise4effects() {
        promise = 4;
        EngineShed x = new EngineShed();
        due("a fault", read(x, "bar a if 1<2; bar"), 1);
        due("changes nothing", x.rules(0), 0);
        due("a fault far on", read(x, "from 7; wear b ((1" + times("+1", 150) + "?"), 1);
        due("another one", read(x, "wear b (1" + times("*2", 150) + ";"), 1);
        for (int i = 0; i < 6; i++) due("text " + i, read(x, "bar " + letters(i) + " if 1<2;"), 0);
        put(x, "strike aa;");
        due("a 7th text", x.read(), -2);
        due("the tape stays", x.count(6), 10);
        due("texts", x.count(5), 6);
        due("rules", x.rules(0), 6);
        afterFaults();
        promise = 5;
        due("place behind -2", x.place(), -1);
        EngineShed y = new EngineShed();
        read(y, "?");
        due("place", y.place(), 0);
        for (int i = 0; i < 6; i++) due("text " + i, read(y, ""), 0);
        due("place of none", y.place(), -1);
        EngineShed z = new EngineShed();
        for (int i = 0; i < 5; i++) read(z, "");
        read(z, "  ?");
        read(z, "");
        due("-2", z.read(), -2);
        due("place of the latest that was not -2", z.place(), -1);
    }

    /** A text of 400 tokens tells the same behind faults that came far. */
    private static void afterFaults() {
        EngineShed x = lineBoard();
        due("a fault", read(x, "from 9; wear b ((1" + times("+1", 150) + " if"), 1);
        due("another one", read(x, "wear c 1 if not not 1" + times("+1", 150) + " if"), 1);
        due("400 tokens", read(x, "wear a 1" + times("+1", 198) + ";"), 0);
        x.run(0, 0, 0, 0);
        due("rules", x.rules(0), 1);
        due("its sum", x.held(0, 1, 1), 199);
        due("not, and no more", read(x, "bar a if not ?"), 1);
        due("a rule with if", read(x, "wear a 7 if 1 == 1;"), 0);
        due("it holds", x.held(0, 1, 1), 7);
        // What was taken back from the tape is not read.
        put(x, "bar a if 1<=");
        x.back(1);
        due("an end behind <", x.read(), 1);
        due("its place", x.place(), 11);
        put(x, "strike abc");
        x.back(2);
        put(x, ";");
        due("a name cut short", x.read(), 0);
        due("it struck", x.rules(0), 0);
    }

    private static void promise6to10() {
        promise = 6;
        EngineShed x = new EngineShed();
        due("engine without a shed", x.engine(0, 0), -1);
        for (int i = 0; i < 5; i++) due("shed " + i, x.shed(), i);
        due("a 6th", x.shed(), -1);
        due("sheds", x.count(0), 5);
        promise = 7;
        due("way", x.way(4, 0, 9), true);
        due("way 0", x.way(0, 1, 0), true);
        due("way 10", x.way(0, 1, 10), false);
        due("way -1", x.way(0, 1, -1), false);
        due("way to itself", x.way(2, 2, 0), false);
        due("no shed 5", x.way(0, 5, 1), false);
        due("no shed -1", x.way(-1, 0, 1), false);
        promise = 8;
        due("class 6", x.engine(6, 0), -1);
        due("class -1", x.engine(-1, 0), -1);
        due("home 5", x.engine(0, 5), -1);
        due("home -1", x.engine(0, -1), -1);
        for (int i = 0; i < 9; i++) due("engine " + i, x.engine(i % 6, i % 5), i);
        due("a 10th", x.engine(0, 0), -1);
        promise = 9;
        due("lines 256", x.man(256), -1);
        due("lines -1", x.man(-1), -1);
        for (int i = 0; i < 8; i++) due("man " + i, x.man(i == 0 ? 0 : 255), i);
        due("a 9th", x.man(1), -1);
        promise = 10;
        due("from 5", x.turn(5, 0, 0, 1, 0, 0, 0, true), -1);
        due("to 5", x.turn(0, 5, 0, 1, 0, 0, 0, false), -1);
        due("a -1", x.turn(0, 0, -1, 1, 0, 0, 0, false), -1);
        due("b 25", x.turn(0, 0, 0, 25, 0, 0, 0, false), -1);
        due("a is b", x.turn(0, 0, 3, 3, 0, 0, 0, false), -1);
        due("a behind b", x.turn(0, 0, 4, 3, 0, 0, 0, true), -1);
        due("miles 401", x.turn(0, 0, 0, 1, 401, 0, 0, false), -1);
        due("miles -1", x.turn(0, 0, 0, 1, -1, 0, 0, false), -1);
        due("load 100", x.turn(0, 0, 0, 1, 0, 100, 0, true), -1);
        due("load -1", x.turn(0, 0, 0, 1, 0, -1, 0, false), -1);
        due("line 8", x.turn(0, 0, 0, 1, 0, 0, 8, true), -1);
        due("line -1", x.turn(0, 0, 0, 1, 0, 0, -1, false), -1);
        due("turns", x.count(3), 0);
        due("a spare one", x.turn(1, -7, 0, 24, 9999, 99, 7, true), 0);
        for (int i = 1; i < 12; i++) due("turn " + i, x.turn(0, 4, 23, 24, 400, 99, 7, false), i);
        due("a 13th", x.turn(0, 4, 23, 24, 400, 99, 7, false), -1);
    }

    private static void promise11to17() {
        EngineShed x = lineBoard();
        promise = 11;
        due("engine 3", x.run(3, 0, 0, 0), -1);
        due("engine -1", x.run(-1, 0, 0, 0), -1);
        due("turn 3", x.run(0, 3, 0, 0), -1);
        due("turn -1", x.run(0, -1, 0, 0), -1);
        due("man 2", x.run(0, 0, 2, 0), -1);
        due("man -1", x.run(0, 0, -1, 0), -1);
        due("day 120", x.run(0, 0, 0, 120), -1);
        due("day -1", x.run(0, 0, 0, -1), -1);
        due("run", x.run(0, 0, 0, 119), 0);
        promise = 12;
        due("no fact 1", x.mile(1, 5), -1);
        due("fact -1", x.mile(-1, 5), -1);
        due("v 10000", x.mile(0, 10000), -1);
        due("v -1", x.mile(0, -1), -1);
        due("mile", x.mile(0, 9999), 1);
        due("mile of a mile", x.mile(1, 5), -1);
        promise = 13;
        due("kind 4", x.fact(4, 0, 0), -1);
        due("kind -1", x.fact(-1, 0, 0), -1);
        due("engine 3", x.fact(0, 3, 0), -1);
        due("day 120", x.fact(0, 0, 120), -1);
        due("fact", x.fact(3, 0, 119), 2);
        promise = 14;
        due("until 120", x.shops(0, 0, 120), -1);
        due("until -1", x.shops(0, 0, -1), -1);
        due("day -1", x.shops(0, -1, 5), -1);
        due("engine 3", x.shops(3, 0, 5), -1);
        due("shops not behind", x.shops(0, 100, 0), 3);
        promise = 15;
        due("hour 24", x.fails(0, 0, 24), -1);
        due("hour -1", x.fails(0, 0, -1), -1);
        due("engine -1", x.fails(-1, 0, 0), -1);
        due("fails", x.fails(0, 110, 23), 4);
        promise = 16;
        due("shed 3", x.lent(0, 3, 0), -1);
        due("shed -1", x.lent(0, -1, 0), -1);
        due("day 120", x.lent(0, 0, 120), -1);
        due("engine 3", x.lent(3, 0, 0), -1);
        due("lent", x.lent(0, 2, 119), 5);
        promise = 17;
        due("shed 3", x.coals(3, 0, 1), -1);
        due("shed -1", x.coals(-1, 0, 1), -1);
        due("day 120", x.coals(0, 120, 1), -1);
        due("v 10000", x.coals(0, 0, 10000), -1);
        due("v -1", x.coals(0, 0, -1), -1);
        due("coals", x.coals(0, 0, 9999), 6);
        due("facts", x.count(4), 7);
        for (int i = 7; i < 180; i++) x.fact(1, 0, 0);
        due("180 facts", x.count(4), 180);
        promise = 11;
        due("a 181st run", x.run(0, 0, 0, 0), -1);
        promise = 12;
        due("a 181st mile", x.mile(0, 0), -1);
        promise = 13;
        due("a 181st fact", x.fact(0, 0, 0), -1);
        promise = 14;
        due("a 181st shops", x.shops(0, 0, 1), -1);
        promise = 15;
        due("a 181st fails", x.fails(0, 0, 0), -1);
        promise = 16;
        due("a 181st lent", x.lent(0, 0, 0), -1);
        promise = 17;
        due("a 181st coals", x.coals(0, 0, 0), -1);
        due("facts", x.count(4), 180);
    }

    private static void promise18and19() {
        promise = 18;
        EngineShed x = new EngineShed();
        due("day -1", x.rules(-1), -1);
        due("day 120", x.rules(120), -1);
        read(x, "from 5; wear a 1; strike b; strike nope;");
        read(x, "bar a if 1<2; due b if 1<2; coal c 1; strike c; price c 2;");
        read(x, "from 5; due z if 1<2; bar a if 1<2;");
        due("ahead of 5", x.rules(4), 3);
        due("from 5 on", x.rules(5), 3);
        promise = 19;
        int[][] early = {{0, 1, 0}, {1, 1, 1}, {4, 1, 4}};
        int[][] late = {{0, 2, 1}, {4, 1, 4}, {1, 2, 0}};
        for (int k = 0; k < 3; k++) {
            for (int what = 0; what < 3; what++) {
                due("rule(4, " + k + ", " + what + ")", x.rule(4, k, what), early[k][what]);
                due("rule(119, " + k + ", " + what + ")", x.rule(119, k, what), late[k][what]);
            }
        }
        due("k 3", x.rule(0, 3, 0), -1);
        due("k -1", x.rule(0, -1, 0), -1);
        due("what 3", x.rule(0, 0, 3), -1);
        due("what -1", x.rule(0, 0, -1), -1);
        due("day 120", x.rule(120, 0, 0), -1);
        due("day -1", x.rule(-1, 0, 0), -1);
        EngineShed y = new EngineShed();
        for (int t = 0; t < 6; t++) {
            StringBuilder s = new StringBuilder();
            for (int i = 0; i < 24; i++) s.append("bar ").append(letters(t * 24 + i)).append(" if 1<2;");
            read(y, s.toString());
        }
        due("all rules", y.rules(0), 144);
        due("the last one's number", y.rule(0, 143, 2), 23);
        due("the last one's text", y.rule(0, 143, 1), 5);
    }

    private static void state(EngineShed x, int engine, int day, int n, int... all) {
        for (int what = 0; what < 7; what++) {
            due("state(" + engine + ", " + day + ", " + n + ", " + what + ")", x.state(engine, day, n, what), all[what]);
        }
    }

    private static void promise20washes() {
        promise = 20;
        EngineShed x = lineBoard();
        state(x, 2, 7, 0, 1, 0, 0, 0, 7, 7, 1);
        x.run(0, 0, 0, 1);
        x.fact(0, 0, 1);
        x.fact(1, 0, 1);
        state(x, 0, 1, 3, 1, 0, 100, 0, 1, 0, 0);
        x.fact(0, 0, 2);
        state(x, 0, 3, 4, 1, 0, 0, 0, 1, 2, 0);
        state(x, 0, 3, 3, 1, 0, 100, 0, 3, 2, 0);
        state(x, 0, 0, 4, 0, 0, 0, 0, 0, 0, 0);
        due("engine 3", x.state(3, 0, 0, 0), -1);
        due("engine -1", x.state(-1, 0, 0, 0), -1);
        due("day 120", x.state(0, 120, 0, 0), -1);
        due("day -1", x.state(0, -1, 0, 0), -1);
        due("n 5", x.state(0, 0, 5, 0), -1);
        due("n -1", x.state(0, 0, -1, 0), -1);
        due("what 7", x.state(0, 0, 0, 7), -1);
        due("what -1", x.state(0, 0, 0, -1), -1);
        // Facts of one day go by their numbers, days by days.
        EngineShed y = lineBoard();
        y.run(0, 1, 0, 1);
        y.run(0, 0, 0, 0);
        state(y, 0, 1, 2, 0, 0, 161, 0, 1, 1, 0);
        due("the later day's run", y.isVoid(0, 2), 0);
        due("as known by 1", y.isVoid(0, 1), 2);
    }

    private static void promise20shops() {
        promise = 20;
        EngineShed x = lineBoard();
        x.run(0, 0, 0, 0);
        x.lent(0, 2, 1);
        x.shops(0, 2, 4);
        x.fact(0, 0, 3);
        x.fact(1, 0, 3);
        x.fails(0, 3, 3);
        x.lent(0, 1, 3);
        x.shops(0, 3, 9);
        x.fact(3, 0, 2);
        state(x, 0, 1, 9, 2, 0, 100, 0, 1, 1, 2);
        state(x, 0, 2, 9, -1, 1, 100, 0, 2, 2, 2);
        state(x, 0, 3, 9, -1, 1, 100, 0, 3, 3, 2);
        state(x, 0, 4, 9, 0, 0, 0, 0, 0, 0, 2);
        state(x, 0, 9, 9, 0, 0, 0, 0, 5, 5, 2);
        EngineShed y = lineBoard();
        y.shops(0, 2, 2);
        y.shops(0, 2, 1);
        y.run(0, 0, 0, 2);
        y.shops(0, 2, 5);
        state(y, 0, 2, 4, 1, 0, 100, 0, 2, 2, 0);
        due("shops that do nothing", y.isVoid(2, 4), 0);
        y.shops(0, 3, 5);
        y.run(0, 1, 0, 5);
        due("gone home on the day", y.isVoid(5, 6), 2);
        y.run(0, 0, 0, 5);
        due("runs on the day", y.isVoid(6, 7), 0);
    }

    private static void promise20worn() {
        promise = 20;
        EngineShed x = lineBoard();
        read(x, "wear w 40;");
        x.run(0, 0, 0, 0);
        x.run(0, 1, 0, 0);
        x.shops(0, 1, 3);
        state(x, 0, 2, 3, -1, 1, 161, 80, 2, 2, 0);
        state(x, 0, 3, 3, 0, 0, 0, 0, 0, 0, 0);
        // An engine that comes later is as it should be, too, and so is one behind a new text.
        int later = x.engine(4, 2);
        state(x, later, 3, 3, 2, 0, 0, 0, 3, 3, 2);
        due("wear", x.state(0, 0, 3, 3), 80);
        read(x, "wear w 50;");
        due("wear by another rule", x.state(0, 0, 3, 3), 100);
    }

    /** The evening of a day and the morning of the next one are not the same. */
    private static void promise20mornings() {
        promise = 20;
        EngineShed x = lineBoard();
        read(x, "due d if 4 <= days; bar b if class == 1;");
        x.shops(0, 1, 6);
        for (int i = 0; i < 2; i++) {
            due("the evening of 5", x.state(0, 5, 1, 1), 1);
            due("the morning of 6", x.due(0, 6, 1), 0);
            due("the evening of 5", x.state(0, 5, 1, 1), 1);
            due("best of 6", x.best(6, 1, 1), 0);
            due("the evening of 5", x.state(0, 5, 1, 4), 5);
            due("the morning of 5", x.due(0, 5, 1), 1);
            due("best of 5", x.best(5, 1, 1), -2);
            due("the evening of 6", x.state(0, 6, 1, 0), 0);
        }
    }

    private static void promise20fails() {
        promise = 20;
        EngineShed x = lineBoard();
        x.run(0, 0, 0, 0);
        x.run(0, 1, 0, 0);
        x.fails(0, 0, 5);
        state(x, 0, 0, 3, 1, 2, 130, 0, 0, 0, 0);
        x.fails(0, 0, 6);
        x.fact(0, 0, 1);
        x.fact(1, 0, 1);
        x.lent(0, 2, 1);
        x.shops(0, 1, 3);
        state(x, 0, 1, 8, 1, 2, 130, 0, 1, 1, 0);
        x.fact(2, 0, 0);
        x.lent(0, 2, 0);
        x.fails(0, 0, 7);
        // Half the miles once, but it stands where its last run began.
        state(x, 0, 0, 11, 1, 2, 130, 0, 0, 0, 2);
        due("the run still holds", x.isVoid(1, 11), 0);
        x.fact(2, 0, 2);
        state(x, 0, 2, 12, 1, 0, 130, 0, 2, 2, 2);
        EngineShed y = lineBoard();
        y.fails(2, 3, 0);
        y.run(2, 1, 0, 3);
        state(y, 2, 3, 2, 1, 2, 0, 0, 3, 3, 1);
        due("mended of a sound one", y.fact(2, 0, 0), 2);
        state(y, 0, 0, 3, 0, 0, 0, 0, 0, 0, 0);
    }

    private static void promise20lent() {
        promise = 20;
        EngineShed x = lineBoard();
        x.lent(0, 0, 0);
        x.run(0, 0, 0, 0);
        x.fact(3, 0, 0);
        state(x, 0, 0, 3, 1, 0, 100, 0, 0, 0, 0);
        x.lent(0, 1, 0);
        x.lent(0, 2, 0);
        state(x, 0, 0, 4, 1, 0, 100, 0, 0, 0, 1);
        state(x, 0, 0, 5, 2, 0, 100, 0, 0, 0, 2);
        x.fact(3, 0, 1);
        state(x, 0, 1, 6, 0, 0, 100, 0, 1, 1, 0);
    }

    private static void promise21() {
        promise = 21;
        EngineShed x = lineBoard();
        x.fact(0, 0, 0);
        x.run(0, 1, 1, 0);
        due("washed, at another shed", x.isVoid(1, 2), 1);
        x.shops(1, 0, 1);
        x.run(1, 0, 0, 0);
        due("in the shops", x.isVoid(3, 4), 1);
        x.run(0, 1, 0, 1);
        due("at another shed", x.isVoid(4, 5), 2);
        x.run(2, 1, 0, 2);
        x.run(2, 0, 0, 2);
        due("the first run", x.isVoid(5, 7), 0);
        due("ran up to 14, turn at 6", x.isVoid(6, 7), 3);
        x.run(0, 0, 0, 3);
        x.run(0, 1, 0, 3);
        due("from 10 where it ran up to 10", x.isVoid(8, 9), 0);
        x.fails(1, 4, 0);
        x.run(1, 0, 0, 4);
        x.run(1, 0, 0, 5);
        due("failed", x.isVoid(10, 12), 1);
        due("failed, a day on", x.isVoid(11, 12), 1);
        due("not known", x.isVoid(11, 11), -1);
        due("another fact", x.isVoid(9, 12), -1);
        due("fact -1", x.isVoid(-1, 12), -1);
        due("n 13", x.isVoid(0, 13), -1);
        due("n -1", x.isVoid(0, -1), -1);
        due("fact at n", x.isVoid(12, 12), -1);
        // Behind the shops' day an engine is washed, but by no WASH.
        EngineShed y = lineBoard();
        y.shops(0, 0, 3);
        y.run(0, 0, 0, 3);
        due("washed by the shops", y.isVoid(1, 2), 0);
        // A turn runs once a day; a void run is none.
        y.run(1, 0, 1, 3);
        y.run(1, 0, 1, 4);
        due("the turn has run", y.isVoid(2, 4), 7);
        due("not on the next day", y.isVoid(3, 4), 0);
    }

    private static void promise21men() {
        promise = 21;
        EngineShed x = board();
        x.man(2);
        x.turn(0, 0, 0, 6, 0, 0, 1, false);
        x.turn(0, 0, 6, 10, 0, 0, 1, false);
        x.turn(0, 0, 10, 11, 0, 0, 1, false);
        x.turn(0, 0, 5, 7, 0, 0, 1, false);
        x.turn(0, 0, 12, 23, 0, 0, 1, false);
        x.turn(0, 0, 12, 22, 0, 0, 1, false);
        x.turn(0, 0, 1, 2, 0, 0, 2, false);
        x.run(0, 0, 0, 0);
        x.run(1, 3, 0, 0);
        due("the same hour", x.isVoid(1, 2), 5);
        x.run(1, 1, 0, 0);
        due("ten hours", x.isVoid(2, 3), 0);
        x.run(0, 2, 0, 0);
        due("eleven hours", x.isVoid(3, 4), 5);
        x.run(1, 4, 1, 1);
        due("eleven at once", x.isVoid(4, 5), 5);
        x.run(1, 5, 1, 1);
        due("ten at once", x.isVoid(5, 6), 0);
        x.run(0, 6, 2, 2);
        due("does not know the line", x.isVoid(6, 7), 6);
        x.run(0, 6, 0, 2);
        due("knows it", x.isVoid(7, 8), 0);
        x.run(1, 6, 2, 2);
        due("6 ahead of 7", x.isVoid(8, 9), 6);
        x.run(1, 6, 0, 2);
        due("5 ahead of 7", x.isVoid(9, 10), 5);
        x.run(2, 6, 1, 0);
        due("2 ahead of 6", x.isVoid(10, 11), 2);
    }

    private static void held(EngineShed x, int fact, int n, int... all) {
        for (int what = 0; what < 5; what++) due("held(" + fact + ", " + n + ", " + what + ")", x.held(fact, n, what), all[what]);
    }

    private static void promise22() {
        promise = 22;
        EngineShed x = lineBoard();
        read(x, "wear w miles / 10 + 1; coal c worn + 2; due d if 100 <= miles;");
        x.run(0, 0, 0, 0);
        x.run(0, 1, 0, 0);
        x.run(0, 2, 0, 1);
        held(x, 0, 3, 100, 1, 2, 0, 0);
        held(x, 1, 3, 61, 11, 3, 0, 100);
        held(x, 2, 3, 0, 17, 14, 1, 161);
        x.mile(0, 77);
        x.mile(2, 9999);
        x.mile(0, 9);
        held(x, 0, 4, 77, 1, 2, 0, 0);
        held(x, 1, 6, 61, 1, 3, 0, 9);
        held(x, 2, 6, 9999, 8, 4, 0, 70);
        due("miles in all", x.state(0, 1, 6, 2), 10069);
        x.fails(0, 0, 0);
        due("half of 61", x.held(1, 7, 0), 30);
        due("a failed one's run", x.held(2, 7, 0), -1);
        x.mile(1, 7);
        due("half of 7", x.held(1, 8, 0), 3);
        due("what 5", x.held(0, 8, 5), -1);
        due("what -1", x.held(0, 8, -1), -1);
        due("another fact", x.held(3, 8, 0), -1);
        due("not known", x.held(1, 1, 0), -1);
        due("n 9", x.held(0, 9, 0), -1);
        due("fact -1", x.held(-1, 8, 0), -1);
    }

    private static void amount(String rules, int want) {
        EngineShed x = lineBoard();
        due("read of " + rules, read(x, rules), 0);
        x.run(1, 0, 0, 3);
        due("wear by " + rules, x.held(0, 1, 1), want);
    }

    private static void promise22amounts() {
        promise = 22;
        amount("", 0);
        amount("coal c 5;", 0);
        amount("wear w 999;", 999);
        amount("wear w 1000;", 999);
        amount("wear w 1 - 2;", 0);
        amount("wear w 2 + 3 * 4;", 14);
        amount("wear w (2 + 3) * 4;", 20);
        amount("wear w 20 - 5 - 3;", 12);
        amount("wear w 100 / 7 / 2;", 7);
        amount("wear w 100 / 7 * 2;", 28);
        amount("wear w 50 + (1 - 8) / 2;", 47);
        amount("wear w 5 + 1 / 0;", 0);
        amount("wear w 5 + 1 / (day - 3);", 0);
        amount("wear w 9999 * 9999 * 45 / 9999 / 100;", 204);
        amount("wear w 1 if 1 == 2; wear v 2 if 1 == 1; wear u 3;", 2);
        amount("wear w 1 if 1 / 0 == 0; wear v 2;", 2);
        amount("wear w 1 if not 1 / 0 == 0; wear v 2;", 1);
        amount("wear w 1 if not not 1 / 0 == 0; wear v 2;", 2);
        amount("wear w 1 if 1 / 0 == 1 / 0 or 2 < 3; wear v 2;", 1);
        amount("wear w 1 if 2 < 3 and 1 / 0 != 1; wear v 2;", 2);
        amount("wear w 1 if 1 < 2 or 1 < 2 and 2 < 1; wear v 2;", 1);
        amount("wear w 1 if not 2 < 1 and 2 < 1; wear v 2;", 2);
        amount("wear w 1 if not 1 < 2 or 1 < 2; wear v 2;", 1);
        amount("wear w 1 if 2 < 2; wear v 2 if 2 <= 2;", 2);
        amount("wear w 1 if 2 != 2; wear v 2 if 3 <= 2; wear u 3 if 0 - 1 < 0;", 3);
        amount("coal c 1 / 0; wear v 2;", 2);
        amount("wear w day;", 3);
        amount("wear w class;", 1);
        amount("wear w days * 10 + looked;", 33);
        amount("wear w load;", 50);
        amount("wear w line + hours * 10;", 40);
        amount("wear w far + lent + spare + miles + worn;", 100);
        amount("from 4; wear w 7;", 0);
        amount("from 3; wear w 7;", 7);
        EngineShed x = board();
        x.turn(0, 9, 2, 5, 300, 7, 6, true);
        read(x, "wear w far + spare; coal c lent * 100 + line * 10 + hours;");
        x.lent(2, 0, 2);
        x.run(2, 0, 0, 2);
        due("a spare one's far", x.held(1, 2, 1), 1);
        due("lent, line, hours", x.held(1, 2, 2), 163);
        x.mile(1, 500);
        due("far is as the turn is told", x.held(1, 3, 1), 1);
    }

    private static void promise23() {
        promise = 23;
        EngineShed x = lineBoard();
        read(x, "wear w 1; bar a if load == 20; bar b if 0 < miles; bar c if 1 == 1;");
        read(x, "from 1; strike c; strike w;");
        x.run(0, 0, 0, 0);
        x.run(0, 0, 0, 1);
        x.run(0, 1, 0, 1);
        x.run(0, 0, 0, 2);
        x.run(0, 1, 0, 2);
        due("day 0", x.bar(0, 5), 3);
        due("why", x.isVoid(0, 5), 4);
        due("it holds", x.bar(1, 5), -1);
        due("the first that holds", x.bar(2, 5), 0);
        due("void by 2", x.bar(3, 5), -1);
        due("day 2", x.bar(4, 5), 0);
        x.lent(0, 2, 3);
        due("another fact", x.bar(5, 6), -1);
        due("not known", x.bar(2, 2), -1);
        due("n 7", x.bar(2, 7), -1);
        due("fact -1", x.bar(-1, 6), -1);
    }

    private static void promise24and25() {
        promise = 24;
        EngineShed x = lineBoard();
        read(x, "due a if 100 <= miles or 3 <= looked; due b if load == 50 or spare == 1 or hours != 0;");
        due("at first", x.due(0, 2, 0), 0);
        due("three days on", x.due(0, 3, 0), 1);
        x.run(0, 0, 0, 0);
        x.run(0, 1, 0, 1);
        x.fact(1, 0, 3);
        x.run(0, 0, 0, 3);
        x.run(0, 0, 0, 4);
        x.fact(0, 0, 2);
        due("in the morning of 0", x.due(0, 0, 6), 0);
        due("in the morning of 1", x.due(0, 1, 6), 1);
        due("ahead of the look", x.due(0, 3, 6), 1);
        due("of a failed one, too", x.due(0, 119, 6), 1);
        due("engine 3", x.due(3, 0, 0), -1);
        due("day 120", x.due(0, 120, 0), -1);
        due("n 7", x.due(0, 0, 7), -1);
        due("n -1", x.due(0, 0, -1), -1);
        promise = 25;
        due("0 .. 0", x.beyond(0, 0, 6), 0);
        due("0 .. 1", x.beyond(0, 1, 6), 1);
        due("looked at on the day", x.beyond(3, 3, 6), 1);
        due("0 .. 119", x.beyond(0, 119, 6), 2);
        due("known by 1", x.beyond(0, 119, 1), 0);
        due("b below a", x.beyond(1, 0, 6), -1);
        due("a -1", x.beyond(-1, 0, 6), -1);
        due("b 120", x.beyond(0, 120, 6), -1);
        due("n 7", x.beyond(0, 0, 7), -1);
        promise = 24;
        EngineShed y = lineBoard();
        read(y, "due a if 4 <= days;");
        y.shops(0, 1, 6);
        due("in the shops", y.due(0, 5, 1), 1);
        due("out of them", y.due(0, 6, 1), 0);
    }

    private static void promise26() {
        promise = 26;
        EngineShed x = board();
        x.engine(0, 0);
        x.engine(0, 2);
        x.man(255);
        x.turn(0, 1, 6, 10, 100, 50, 0, false);
        x.turn(0, 0, 5, 9, 0, 0, 0, true);
        x.turn(2, 2, 5, 9, 0, 0, 0, true);
        x.turn(1, 1, 8, 10, 0, 0, 0, true);
        x.run(1, 0, 0, 0);
        x.fails(1, 0, 5);
        due("none", x.help(1, 2), -2);
        x.run(4, 2, 1, 0);
        due("from 2", x.help(1, 3), 4);
        x.run(3, 1, 2, 0);
        due("where it stands", x.help(1, 4), 3);
        x.way(0, 2, 0);
        due("the least of the same way", x.help(1, 4), 3);
        x.way(0, 2, 5);
        x.run(0, 1, 1, 1);
        x.fails(0, 1, 5);
        due("not itself", x.help(5, 6), -2);
        x.fails(4, 0, 9);
        due("at b", x.help(6, 7), -2);
        x.fact(2, 4, 0);
        x.fails(4, 0, 8);
        due("at b - 1", x.help(8, 9), 3);
        x.run(2, 3, 0, 0);
        due("a void spare run", x.isVoid(9, 10), 5);
        due("the man can't", x.help(8, 10), 3);
        x.fails(0, 1, 7);
        due("it did nothing", x.help(10, 11), -1);
        helpByWays();
        due("another fact", x.help(0, 11), -1);
        due("not known", x.help(8, 8), -1);
        due("n 12", x.help(8, 12), -1);
        due("fact -1", x.help(-1, 11), -1);
    }

    /** Engine 0 fails at shed 0, and 1, 2 and 3 are spare at the sheds 1, 2 and 3; 4 has no more than a turn. */
    private static void helpByWays() {
        EngineShed x = new EngineShed();
        for (int i = 0; i < 5; i++) {
            x.shed();
            x.engine(0, i);
            x.man(255);
            x.turn(i, 0, 3, 8, 0, 0, 0, i < 4);
        }
        x.fails(0, 0, 4);
        x.run(4, 4, 4, 0);
        due("none spare", x.help(0, 2), -2);
        x.run(3, 3, 3, 0);
        due("one", x.help(0, 3), 3);
        x.run(2, 2, 2, 0);
        due("a lesser one as far off", x.help(0, 4), 2);
        x.run(1, 1, 1, 0);
        due("the least", x.help(0, 5), 1);
        x.way(1, 0, 1);
        due("told as it is at first", x.help(0, 5), 1);
        x.way(1, 0, 2);
        due("1 at first, 2 told", x.help(0, 5), 2);
        x.way(0, 2, 9);
        x.way(3, 0, 9);
        due("the least of 2, 9 and 9", x.help(0, 5), 1);
        x.way(0, 1, 9);
        due("all 9", x.help(0, 5), 1);
        x.way(0, 3, 0);
        due("a farther number, a nearer way", x.help(0, 5), 3);
        x.way(0, 1, 0);
        due("both 0", x.help(0, 5), 1);
        x.way(0, 1, 1);
        due("1 and 0", x.help(0, 5), 3);
        x.way(0, 3, 1);
        x.way(0, 2, 1);
        due("all as at first", x.help(0, 5), 1);
        // Engine 2 fails at shed 2; 1 is spare at 0, 0 at 1.
        EngineShed y = new EngineShed();
        for (int i = 0; i < 3; i++) {
            y.shed();
            y.man(255);
            y.turn(i, i, 3, 8, 0, 0, 0, true);
        }
        y.engine(0, 1);
        y.engine(0, 0);
        y.engine(0, 2);
        y.run(1, 0, 0, 1);
        y.fails(2, 1, 7);
        due("the first fact helps", y.help(1, 2), 1);
        y.run(0, 1, 1, 1);
        due("both ways as at first", y.help(1, 3), 0);
        y.way(2, 1, 1);
        due("one told as it is", y.help(1, 3), 0);
        y.way(2, 1, 2);
        due("one told farther", y.help(1, 3), 1);
    }

    private static void promise27() {
        promise = 27;
        EngineShed x = lineBoard();
        read(x, "coal c 1000 if load == 50; coal d 3;");
        x.coals(0, 0, 50);
        x.coals(0, 2, 5);
        x.coals(1, 0, 9999);
        x.run(0, 0, 0, 1);
        x.run(0, 1, 0, 1);
        x.run(1, 1, 0, 1);
        due("day 0", x.coal(0, 0, 6), 50);
        due("day 1", x.coal(0, 1, 6), 50 - 999);
        due("day 2", x.coal(0, 2, 6), 55 - 999);
        due("shed 1", x.coal(1, 119, 6), 9996);
        due("shed 2", x.coal(2, 119, 6), 0);
        due("known by 1", x.coal(0, 119, 1), 50);
        due("shed 3", x.coal(3, 0, 6), -1000000);
        due("shed -1", x.coal(-1, 0, 6), -1000000);
        due("day 120", x.coal(0, 120, 6), -1000000);
        due("n 7", x.coal(0, 0, 7), -1000000);
        due("n -1", x.coal(0, 0, -1), -1000000);
    }

    private static void promise28() {
        promise = 28;
        EngineShed x = lineBoard();
        x.lent(0, 1, 1);
        x.lent(1, 1, 2);
        x.lent(2, 0, 3);
        due("day 0", x.owes(1, 0, -1, 0, 3), 0);
        due("day 1", x.owes(1, 0, -1, 1, 3), 1);
        due("day 2", x.owes(1, 0, -1, 2, 3), 2);
        due("day 2, the other way", x.owes(0, 1, -1, 2, 3), -2);
        due("day 3", x.owes(1, 0, -1, 3, 3), 1);
        due("class 0", x.owes(1, 0, 0, 3, 3), 0);
        due("class 1", x.owes(1, 0, 1, 3, 3), 1);
        due("class 5", x.owes(1, 0, 5, 3, 3), 0);
        due("shed 2", x.owes(2, 0, -1, 3, 3), 0);
        x.shops(0, 4, 6);
        due("its keeper stays", x.owes(1, 0, 0, 6, 4), 0);
        due("class 6", x.owes(1, 0, 6, 0, 3), -1000000);
        due("class -2", x.owes(1, 0, -2, 0, 3), -1000000);
        due("the same", x.owes(1, 1, 0, 0, 3), -1000000);
        due("shed 3", x.owes(3, 0, 0, 0, 3), -1000000);
        due("other -1", x.owes(0, -1, 0, 0, 3), -1000000);
        due("day 120", x.owes(1, 0, 0, 120, 3), -1000000);
        due("n 5", x.owes(1, 0, 0, 0, 5), -1000000);
    }

    private static void promise29to31() {
        promise = 29;
        EngineShed x = board();
        x.engine(2, 0);
        for (int i = 0; i < 9; i++) x.turn(i == 8 ? 1 : 0, 0, 0, 1, i, 10 * i, 0, false);
        read(x, "price p 9 * class + load if class != 2; price q 9999 * 3 if load == 20; bar b if class == 1 and load == 10;");
        due("none asked", x.best(0, 0, 0), 0);
        due("two", x.best(0, 3, 0), 0);
        promise = 30;
        due("given(0)", x.given(0), 0);
        due("given(1)", x.given(1), 3);
        due("given(2)", x.given(2), -1);
        due("given(-1)", x.given(-1), -1);
        due("given(9)", x.given(9), -1);
        promise = 29;
        due("one", x.best(0, 4, 0), 20);
        due("three", x.best(0, 7, 0), 29);
        promise = 30;
        // 0, 3, 1 and 1, 3, 0 are of one price.
        due("given(0)", x.given(0), 0);
        due("given(1)", x.given(1), 3);
        due("given(2)", x.given(2), 1);
        promise = 31;
        due("no lack", x.lack(), 0);
        promise = 29;
        due("eight turns", x.best(0, 255, 0), -2);
        due("four at three", x.lack(), 15);
        due("three", x.best(0, 7, 0), 29);
        due("nine turns", x.best(0, 511, 0), -1);
        due("turn 9", x.best(0, 512, 0), -1);
        due("below 0", x.best(0, -1, 0), -1);
        due("day 120", x.best(120, 1, 0), -1);
        due("day -1", x.best(-1, 1, 0), -1);
        due("n 1", x.best(0, 1, 1), -1);
        due("n -1", x.best(0, 1, -1), -1);
        promise = 30;
        due("nothing happened", x.given(2), 1);
        promise = 29;
        x.fails(1, 3, 0);
        x.shops(0, 1, 3);
        x.lent(2, 0, 2);
        due("the morning of 2", x.best(2, 5, 3), 29);
        due("turn 0", x.given(0), 3);
        due("turn 2", x.given(2), 1);
        due("two of one shed", x.best(2, 256, 3), 80);
        due("lent on the day", x.given(8), 2);
        due("out of the shops", x.best(3, 15, 3), 39);
        due("turn 0", x.given(0), 0);
        due("turn 1", x.given(1), 2);
        due("turn 2", x.given(2), 1);
        due("turn 3", x.given(3), 3);
        due("failed by then", x.best(4, 15, 3), -2);
        promise = 30;
        due("given of a lack", x.given(0), -1);
        promise = 31;
        due("lack", x.lack(), 15);
    }

    private static void price(String rules, int want) {
        EngineShed x = lineBoard();
        due("read of " + rules, read(x, rules), 0);
        due("price by " + rules, x.best(7, 2, 0), want);
    }

    private static void promise29prices() {
        promise = 29;
        price("", 0);
        price("price p 9999;", 9999);
        price("price p 9999 + 1;", 9999);
        price("price p 3 - 4;", 0);
        price("price p 3 / 0;", 0);
        price("price p 3 if 1 == 2; price q days * 100 + load; price r 1;", 720);
        price("from 8; price p 3;", 0);
        price("bar b if load == 21; price p far;", 61);
        price("bar b if load == 20; price p far;", -2);
        EngineShed x = new EngineShed();
        x.shed();
        for (int i = 0; i < 9; i++) x.engine(i % 3, 0);
        for (int i = 0; i < 12; i++) x.turn(0, 0, 0, 1, 0, i, 0, false);
        read(x, "price p load * (3 - class); bar b if load == 4 and class < 2;");
        // Loads 4 .. 11: class 2 takes 4, 10 and 11, class 1 then 7 .. 9, class 0 the least of them.
        due("eight turns", x.best(0, 255 << 4, 0), 4 + 10 + 11 + 2 * (7 + 8 + 9) + 3 * (5 + 6));
        int[] who = {2, 0, 3, 1, 4, 7, 5, 8};
        for (int t = 4; t < 12; t++) due("given(" + t + ")", x.given(t), who[t - 4]);
    }

    private static void promise31lacks() {
        promise = 31;
        EngineShed x = board();
        x.turn(0, 0, 0, 1, 0, 0, 0, false);
        x.turn(0, 0, 0, 1, 0, 1, 0, false);
        x.turn(0, 0, 0, 1, 0, 2, 0, false);
        x.turn(1, 0, 0, 1, 0, 3, 0, false);
        x.turn(1, 0, 0, 1, 0, 4, 0, false);
        x.turn(2, 0, 0, 1, 0, 5, 0, false);
        due("two at one", x.best(0, 31, 0), -2);
        due("the fewest", x.lack(), 24);
        due("one at none", x.best(0, 63, 0), -2);
        due("fewer still", x.lack(), 32);
        due("three at two", x.best(0, 15, 0), -2);
        due("three", x.lack(), 7);
        read(x, "bar b if class == 0 and load < 3;");
        due("two of three", x.best(0, 7, 0), -2);
        due("the first two", x.lack(), 3);
        due("the others", x.best(0, 6, 0), -2);
        due("them", x.lack(), 6);
        due("price 0", x.best(0, 4, 0), 0);
        due("none lacks", x.lack(), 0);
    }

    private static void promise32to35() {
        EngineShed x = board();
        for (int i = 0; i < 6; i++) x.engine(0, 0);
        promise = 35;
        due("road at first", x.road(0), -1);
        promise = 32;
        due("engine 9", x.lines(false, 9), -1);
        due("engine -1", x.lines(true, -1), -1);
        for (int i = 0; i < 7; i++) due("in " + i, x.lines(false, i), i + 1);
        due("an 8th", x.lines(false, 7), -1);
        due("out 3", x.lines(true, 3), 1);
        due("out 3 again", x.lines(true, 3), -1);
        promise = 34;
        due("not of the same", x.roads(1), -1);
        promise = 33;
        x.clear();
        due("in again", x.lines(false, 5), 1);
        due("out again", x.lines(true, 5), 1);
        promise = 34;
        due("one", x.roads(3), 0);
        due("none", x.roads(0), -1);
        due("four", x.roads(4), -1);
        promise = 35;
        due("its road", x.road(5), 0);
        due("of another", x.road(4), -1);
        due("engine 9", x.road(9), -1);
        due("engine -1", x.road(-1), -1);
        promise = 34;
        x.lines(false, 1);
        x.lines(false, 8);
        x.lines(true, 8);
        due("as long, not yet of the same", x.roads(1), -1);
        x.lines(true, 1);
        // In 5, 1, 8; out 5, 8, 1: on one road 1 and 8 have 5 behind them.
        due("one road", x.roads(1), 2);
        due("two roads", x.roads(2), 0);
        promise = 35;
        due("road of 5", x.road(5), 0);
        due("road of 1", x.road(1), 1);
        due("road of 8", x.road(8), 1);
        x.clear();
        due("roads of no rows", x.roads(2), -1);
        due("it stays", x.road(8), 1);
        x.lines(false, 0);
        x.lines(true, 1);
        due("one each, not the same", x.roads(1), -1);
        x.clear();
        int[] in = {6, 2, 0, 4, 1, 3, 5};
        for (int e : in) x.lines(false, e);
        for (int e = 0; e < 7; e++) x.lines(true, e);
        due("three roads", x.roads(3), 1);
        int[] found = new int[7];
        for (int e = 0; e < 7; e++) found[e] = x.road(e);
        due("the first of these", java.util.Arrays.equals(found, firstRoads(in, 3)), true);
    }

    /** By trying all: the roads of the fewest in the way, the first in order of those that come in. */
    private static int[] firstRoads(int[] in, int many) {
        int[] first = null;
        int fewest = 99;
        int total = (int) Math.round(Math.pow(many, in.length));
        for (int code = 0; code < total; code++) {
            int[] r = new int[in.length];
            for (int i = in.length - 1, c = code; i >= 0; i--, c /= many) r[i] = c % many;
            int blocked = 0;
            for (int i = 0; i < in.length; i++) {
                boolean is = false;
                for (int j = 0; j < i; j++) is |= r[i] == r[j] && in[j] < in[i];
                if (is) blocked++;
            }
            if (blocked < fewest) {
                fewest = blocked;
                first = new int[in.length];
                for (int i = 0; i < in.length; i++) first[in[i]] = r[i];
            }
        }
        return first;
    }

    private static void promise36to38() {
        promise = 36;
        EngineShed x = board();
        x.turn(0, 0, 0, 1, 0, 0, 0, false);
        x.turn(0, 0, 0, 1, 0, 0, 0, false);
        due("class 6", x.may(6, 0, false), false);
        due("class -1", x.may(-1, 0, false), false);
        due("turn 2", x.may(0, 2, false), false);
        due("turn -1", x.may(0, -1, false), false);
        promise = 38;
        due("month at first", x.month(0), -1);
        promise = 37;
        due("all in one", x.months(7, 1, 3, 0, 1), 0);
        due("p too low", x.months(7, 1, 2, 0, 0), -2);
        due("two and one", x.months(7, 2, 2, 1, 0), 0);
        promise = 38;
        due("of 0", x.month(0), 0);
        due("of 1", x.month(1), 0);
        due("of 2", x.month(2), 1);
        promise = 37;
        due("one may fail", x.months(7, 3, 2, 1, 1), 0);
        promise = 38;
        due("of 1", x.month(1), 1);
        due("of 2", x.month(2), 2);
        due("of 3", x.month(3), -1);
        due("of -1", x.month(-1), -1);
        promise = 36;
        due("class 0 may not", x.may(0, 0, false), true);
        promise = 37;
        due("none for turn 0", x.months(2, 5, 5, 1, 0), -2);
        due("one for turn 0", x.months(5, 5, 5, 1, 0), 0);
        promise = 38;
        due("of 0", x.month(0), 0);
        due("of 2", x.month(2), 0);
        due("of 1, not asked", x.month(1), -1);
        promise = 37;
        due("it may fail", x.months(5, 5, 5, 1, 1), -2);
        due("turn 1 has others", x.months(1, 1, 1, 2, 1), 0);
        promise = 36;
        due("it may again", x.may(0, 0, true), true);
        promise = 37;
        due("again", x.months(2, 1, 1, 1, 1), 0);
        due("engines 0", x.months(0, 1, 1, 1, 0), -1);
        due("engine 3", x.months(8, 1, 1, 1, 0), -1);
        due("engines below 0", x.months(-1, 1, 1, 1, 0), -1);
        due("w 0", x.months(1, 0, 1, 1, 0), -1);
        due("w 6", x.months(1, 6, 1, 1, 0), -1);
        due("p 0", x.months(1, 1, 0, 1, 0), -1);
        due("p 6", x.months(1, 1, 6, 1, 0), -1);
        due("turn 2", x.months(1, 1, 1, 4, 0), -1);
        due("turns below 0", x.months(1, 1, 1, -1, 0), -1);
        due("f 2", x.months(1, 1, 1, 1, 2), -1);
        due("f -1", x.months(1, 1, 1, 1, -1), -1);
        monthsTakenBack();
        EngineShed y = board();
        for (int i = 0; i < 6; i++) y.engine(0, 0);
        for (int i = 0; i < 9; i++) y.turn(0, 0, 0, 1, 0, 0, 0, false);
        due("six engines", y.months(63, 5, 5, 1, 0), -1);
        due("nine turns", y.months(1, 5, 5, 511, 0), -1);
        due("five engines, eight turns", y.months(31, 5, 1, 255, 0), 0);
        for (int e = 0; e < 5; e++) due("month " + e, y.month(e), e);
        due("four months", y.months(31, 4, 2, 255, 0), -2);
        due("one too many if one fails", y.months(1, 5, 1, 255, 1), -2);
        due("seven turns if one fails", y.months(1, 5, 1, 127, 1), 0);
    }

    /** 0 and 1 could go together, but then 2 and 3, who alone may work the turn, would have to as well. */
    private static void monthsTakenBack() {
        EngineShed x = new EngineShed();
        x.shed();
        for (int i = 0; i < 4; i++) x.engine(i < 2 ? 1 : 0, 0);
        x.turn(0, 0, 0, 1, 0, 0, 0, false);
        x.may(1, 0, false);
        due("0 and 1 alone", x.months(3, 2, 2, 1, 0), 0);
        due("1 with 0", x.month(1), 0);
        due("all four", x.months(15, 2, 2, 1, 0), 0);
        int[] months = {0, 1, 0, 1};
        for (int e = 0; e < 4; e++) due("month of " + e, x.month(e), months[e]);
        due("three in one", x.months(15, 2, 3, 1, 0), 0);
        int[] wider = {0, 0, 0, 1};
        for (int e = 0; e < 4; e++) due("month of " + e, x.month(e), wider[e]);
    }

    private static void promise39and40() {
        promise = 39;
        EngineShed x = board();
        x.engine(2, 2);
        x.engine(3, 0);
        x.turn(0, 1, 6, 10, 100, 50, 0, false);
        x.turn(1, 2, 6, 10, 100, 50, 0, false);
        due("none", x.causes(0), 0);
        promise = 40;
        due("none", x.cause(0, 0), -1);
        x.run(0, 0, 0, 0);
        x.fails(0, 0, 7);
        promise = 39;
        due("of one", x.causes(2), 3);
        due("not known", x.causes(1), 0);
        promise = 40;
        due("class 0", x.cause(2, 0), 1);
        due("shed 0, from where it ran", x.cause(2, 1), 1 << 8);
        due("man 0", x.cause(2, 2), 1 << 16);
        due("no more", x.cause(2, 3), -1);
        due("i -1", x.cause(2, -1), -1);
        due("n 3", x.cause(3, 0), -1);
        x.fails(0, 0, 8);
        x.fails(2, 3, 1);
        promise = 39;
        due("one that did nothing, one of shed 1", x.causes(4), 1);
        promise = 40;
        due("class 0", x.cause(4, 0), 1);
        x.fails(1, 3, 1);
        promise = 39;
        // Classes and sheds: 0 0 (man 0), 0 1, 1 0.
        due("two", x.causes(5), 3);
        promise = 40;
        due("0, 1", x.cause(5, 0), 3);
        due("0, shed 0", x.cause(5, 1), 1 | 1 << 8);
        due("shed 0, shed 1", x.cause(5, 2), 1 << 8 | 1 << 9);
        due("no 4th", x.cause(5, 3), -1);
        x.fails(3, 3, 1);
        promise = 39;
        due("three", x.causes(6) > 0, true);
        promise = 40;
        due("asked first", x.cause(2, 0), 1);
        due("asked without the count", x.cause(5, 0), 3);
        due("nothing is left of it", x.cause(4, 0), 1);
        EngineShed z = board();
        z.lent(0, 1, 4);
        z.fails(0, 5, 0);
        z.fails(0, 3, 0);
        for (int i = 0; i < 2; i++) {
            due("known by 2, at shed 1", z.cause(2, 1), 1 << 9);
            due("known by 3, at shed 0", z.cause(3, 1), 1 << 8);
        }
        promise = 39;
        due("n -1", x.causes(-1), -1);
        due("n 7", x.causes(7), -1);
        // Four that have nothing of their own in common.
        EngineShed y = new EngineShed();
        for (int i = 0; i < 4; i++) y.shed();
        for (int i = 0; i < 4; i++) y.engine(i, i);
        for (int i = 0; i < 4; i++) y.fails(i, i, 0);
        due("three at most", y.causes(3), 8);
        due("four", y.causes(4), -2);
        promise = 40;
        due("four", y.cause(4, 0), -1);
        due("the first of three", y.cause(3, 0), 7);
        due("the last of three", y.cause(3, 7), 7 << 8);
        due("the fourth of three", y.cause(3, 3), 1 | 3 << 9);
    }

    private static void promise41() {
        promise = 41;
        EngineShed x = lineBoard();
        x.run(0, 1, 0, 1);
        x.run(0, 2, 1, 1);
        x.run(0, 0, 0, 0);
        due("0 holds by the later one", x.turned(1, 3), 0);
        due("the same", x.turned(3, 1), 0);
        due("by two", x.turned(2, 3), 0);
        due("of one", x.turned(3, 3), -1);
        due("none known by both", x.turned(0, 3), -1);
        x.mile(0, 7);
        due("a mile turns none", x.turned(3, 4), -1);
        x.fact(0, 0, 1);
        due("washed behind the run", x.turned(4, 5), -1);
        x.fails(0, 0, 9);
        due("failed", x.turned(5, 6), 0);
        due("n 7", x.turned(7, 3), -1);
        due("m -1", x.turned(3, -1), -1);
        EngineShed y = lineBoard();
        y.run(0, 2, 0, 1);
        y.run(1, 0, 0, 0);
        y.lent(0, 1, 0);
        due("the first that holds no more", y.turned(2, 3), 0);
        due("m 4", y.turned(2, 4), -1);
    }

    private static void promise42() {
        promise = 42;
        EngineShed x = lineBoard();
        x.engine(0, 0);
        x.fact(0, 0, 0);
        x.fact(0, 0, 0);
        x.fact(0, 0, 0);
        x.fact(0, 0, 0);
        x.fact(0, 0, 0);
        read(x, "");
        x.feed(0, 0, 0, 0, 0);
        int[] all = {3, 4, 2, 3, 5, 1, 20};
        for (int what = 0; what < 7; what++) due("count(" + what + ")", x.count(what), all[what]);
        due("count(7)", x.count(7), -1);
        due("count(-1)", x.count(-1), -1);
    }
}
