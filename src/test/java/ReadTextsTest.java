import java.util.List;

/** Of the document's parts I and II: sentences that a reading from its first line found without a test of their own. */
public final class ReadTextsTest {
    private static final int NONE = Bounds.NONE;
    private static final int MIN = Bounds.MIN;
    private static final int MAX = Bounds.MAX;
    private static final String[] VARS = {"day", "class", "miles", "days", "looked", "worn", "load", "line", "hours", "far",
        "lent", "spare"};

    public static void main(String[] args) {
        board();
        hold();
        days();
        hours();
        engines();
        men();
        turns();
        turnNumbers();
        longTexts();
        signs();
        signPairs();
        text();
        ruleTokens();
        ruleChoices();
        conditions();
        literals();
        sums();
        products();
        units();
        vars();
        inForce();
        sorts();
        Bounds.finish();
    }

    private static void holds(int promise, String words) {
        Bounds.holds(promise, words);
    }

    private static void due(String call, int got, int want) {
        Bounds.due(call, got, want);
    }

    private static int read(EngineShed x, String s) {
        return Bounds.read(x, s);
    }

    private static void reads(String s, int fault, int place) {
        Bounds.reads(s, fault, place);
    }

    // ---- part I

    private static void board() {
        holds(42, "A board of engines: sheds, turns by hours that end at home or elsewhere, spares in steam, men who know lines;");
        EngineShed x = new EngineShed();
        due("a shed", x.shed(), 0);
        due("another one", x.shed(), 1);
        due("an engine", x.engine(2, 0), 0);
        due("a man who knows line 3", x.man(8), 0);
        due("a turn that ends at home", x.turn(0, 0, 1, 3, 20, 0, 3, false), 0);
        due("a turn that ends elsewhere", x.turn(0, 1, 4, 6, 30, 0, 3, false), 1);
        due("a spare in steam there", x.turn(1, 0, 7, 9, 40, 0, 3, true), 2);
        due("a turn back", x.turn(1, 0, 10, 12, 50, 0, 2, false), 3);
        for (int t = 0; t < 4; t++) due("a run", x.run(0, t, 0, 0), t);
        int[] why = {0, 0, 0, 6};
        int[] stands = {0, 1, 1, 1};
        int[] miles = {20, 50, 50, 50};
        for (int t = 0; t < 4; t++) {
            due("why not " + t, x.isVoid(t, t + 1), why[t]);
            due("it stands", x.state(0, 0, t + 1, 0), stands[t]);
            due("its miles", x.state(0, 0, t + 1, 2), miles[t]);
        }
        int[] counts = {2, 1, 1, 4, 4, 0, 0};
        for (int what = 0; what < 7; what++) due("count(" + what + ")", x.count(what), counts[what]);
    }

    /** Rules told as texts: from a day on, striking one another. */
    private static void hold() {
        holds(18, "by rules told as texts that hold from a day on and strike one another");
        EngineShed x = new EngineShed();
        due("a text from 10 on", read(x, "from 10; bar a if 1 < 2; due b if 1 < 2;"), 0);
        due("one from 20 on that strikes", read(x, "from 20; strike a; wear c 1;"), 0);
        due("one from 30 on that strikes that", read(x, "from 30; strike c; strike b; strike a;"), 0);
        int[][] counts = {{0, 0}, {9, 0}, {10, 2}, {19, 2}, {20, 2}, {29, 2}, {30, 0}, {119, 0}};
        for (int[] c : counts) due("rules on " + c[0], x.rules(c[0]), c[1]);
        due("on 10 the bar", x.rule(10, 0, 0), 0);
        due("on 20 the due", x.rule(20, 0, 0), 1);
        due("and the wear", x.rule(20, 1, 0), 2);
    }

    private static void days() {
        holds(13, "DAYS are 0 .. 119, hours of a DAY 0 .. 24.");
        for (int day : new int[] {MIN, -2, -1, 0, 1, 60, 118, 119, 120, 121, MAX}) {
            boolean is = 0 <= day && day <= 119;
            EngineShed x = Bounds.sheds(2);
            x.turn(0, 0, 0, 1, 5, 0, 0, false);
            int facts = 0;
            due("run on " + day, x.run(0, 0, 0, day), is ? facts++ : NONE);
            for (int kind = 0; kind < 4; kind++) due("fact " + kind + " on " + day, x.fact(kind, 0, day), is ? facts++ : NONE);
            due("shops on " + day, x.shops(0, day, 0), is ? facts++ : NONE);
            due("shops until " + day, x.shops(1, 0, day), is ? facts++ : NONE);
            due("fails on " + day, x.fails(0, day, 0), is ? facts++ : NONE);
            due("lent on " + day, x.lent(0, 1, day), is ? facts++ : NONE);
            due("coals on " + day, x.coals(0, day, 3), is ? facts++ : NONE);
            due("facts", x.count(4), facts);
            due("rules on " + day, x.rules(day), is ? 0 : NONE);
            due("state on " + day, x.state(0, day, 0, 6), is ? 0 : NONE);
            due("due on " + day, x.due(0, day, 0), is ? 0 : NONE);
            due("beyond from " + day, x.beyond(day, 119, 0), is ? 0 : NONE);
            due("beyond to " + day, x.beyond(0, day, 0), is ? 0 : NONE);
            due("coal on " + day, x.coal(0, day, 0), is ? 0 : Bounds.OUTSIDE);
            due("owes on " + day, x.owes(0, 1, 0, day, 0), is ? 0 : Bounds.OUTSIDE);
            due("best on " + day, x.best(day, 0, 0), is ? 0 : NONE);
        }
    }

    private static void hours() {
        holds(10, "hours of a DAY 0 .. 24");
        for (int a = -1; a <= 25; a++) {
            EngineShed x = Bounds.sheds(1);
            int taken = 0;
            for (int b = -1; b <= 25 && taken < 12; b++) {
                boolean is = 0 <= a && a < b && b <= 24;
                due("turn of " + a + " .. " + b, x.turn(0, 0, a, b, 0, 0, 0, false), is ? taken++ : NONE);
            }
            if (a >= 0 && a <= 25) {
                EngineShed y = Bounds.sheds(1);
                due("turn of 0 .. " + a, y.turn(0, 0, 0, a, 0, 0, 0, true), a >= 1 && a <= 24 ? 0 : NONE);
                due("turn of " + a + " .. 24", y.turn(0, 0, a, 24, 0, 0, 0, true), a <= 23 ? y.count(3) - 1 : NONE);
            }
        }
    }

    private static void engines() {
        holds(8, "ENGINES, 9 at most: a CLASS (0 .. 5), a HOME.");
        EngineShed x = new EngineShed();
        for (int i = 0; i < 5; i++) x.shed();
        read(x, "price p class;");
        for (int i = 0; i < 5; i++) x.turn(i, i, 0, 1, 0, 0, 0, false);
        for (int i = 0; i < 9; i++) due("engine " + i, x.engine(5 - i % 6, i * 2 % 5), i);
        due("a 10th", x.engine(0, 0), NONE);
        for (int i = 0; i < 9; i++) {
            due("the home of " + i, x.state(i, 0, 0, 6), i * 2 % 5);
            due("it stands there", x.state(i, 0, 0, 0), i * 2 % 5);
        }
        // The classes by homes: 0: 5, 0; 1: 2, 3; 2: 4, 5; 3: 1; 4: 3, 4. The least of each shed.
        int[] least = {0, 2, 4, 1, 3};
        for (int i = 0; i < 5; i++) due("the least class at " + i, x.best(0, 1 << i, 0), least[i]);
    }

    private static void men() {
        holds(9, "MEN, 8 at most: LINES that they know (bits 0 .. 7).");
        int[] lines = {1, 2, 4, 8, 16, 32, 64, 128};
        for (int shift = 0; shift < 2; shift++) {
            EngineShed x = new EngineShed();
            x.shed();
            x.engine(0, 0);
            for (int i = 0; i < 8; i++) due("man " + i, x.man(shift == 0 ? lines[i] : 255 - lines[i]), i);
            due("a 9th", x.man(0), NONE);
            for (int line = 0; line < 8; line++) due("turn " + line, x.turn(0, 0, line, line + 1, 0, 0, line, false), line);
            for (int man = 0; man < 8; man++) {
                for (int line = 0; line < 8; line++) {
                    int f = x.run(0, line, man, 8 * man + line);
                    boolean knows = (man == line) == (shift == 0);
                    due("man " + man + " on line " + line, x.isVoid(f, f + 1), knows ? 0 : 6);
                }
            }
        }
    }

    private static void turns() {
        holds(10, "TURNS, 12 at most: from a SHED, to a SHED, of hours a .. b");
        EngineShed x = Bounds.sheds(3);
        for (int from = 0; from < 3; from++) {
            for (int to = 0; to < 3; to++) due("turn from " + from + " to " + to, x.turn(from, to, 5, 9, 10, 0, 0, false), 3 * from + to);
        }
        for (int t = 0; t < 9; t++) {
            // The engine of the shed from which it is works it, and no other may.
            for (int e = 0; e < 3; e++) {
                int f = x.run(e, t, 0, 10 * t + e);
                x.shops(e, 10 * t + e + 1, 10 * t + e + 2);
                due("turn " + t + " of engine " + e, x.isVoid(f, f + 1), e == t / 3 ? 0 : 2);
                due("where it stands", x.state(e, 10 * t + e, f + 1, 0), e == t / 3 ? t % 3 : e);
            }
        }
        for (int t = 9; t < 12; t++) due("turn " + t, x.turn(0, 0, 0, 1, 0, 0, 0, true), t);
        due("a 13th", x.turn(0, 0, 0, 1, 0, 0, 0, true), NONE);
        due("turns", x.count(3), 12);
    }

    private static void turnNumbers() {
        holds(10, "A TURN (a SPARE one: to and miles are of no matter): its number.");
        EngineShed x = Bounds.sheds(2);
        int[] of = {0, 1, 2, -1, 400, 401, MIN, MAX, 5, 4, 399, 1000000};
        for (int i = 0; i < 12; i++) {
            due("a spare one with to and miles " + of[i], x.turn(1, of[i], i, i + 1, of[of.length - 1 - i], i, 0, true), i);
        }
        for (int i = 0; i < 12; i++) {
            int f = x.run(1, i, 0, 2 * i);
            due("it holds", x.isVoid(f, f + 1), 0);
            due("its miles", x.held(f, f + 1, 0), 0);
            due("it ends where it begins", x.state(1, 2 * i, f + 1, 0), 1);
        }
        EngineShed y = Bounds.sheds(2);
        for (int i : of) {
            if (i < 0 || i > 1) due("another one to " + i, y.turn(1, i, 0, 1, 1, 0, 0, false), NONE);
            if (i < 0 || i > 400) due("another one of " + i + " miles", y.turn(1, 1, 0, 1, i, 0, 0, false), NONE);
        }
        due("turns", y.count(3), 0);
    }

    // ---- part II: tokens

    private static void longTexts() {
        holds(4, "RULES are told by texts of 2,000 bytes at most");
        StringBuilder s = new StringBuilder();
        for (int i = 0; i < 24; i++) s.append("price ").append((char) ('a' + i)).append(" ".repeat(70)).append(i + 1).append(";");
        s.append(" ".repeat(2000 - s.length()));
        EngineShed x = Bounds.sheds(1);
        x.turn(0, 0, 0, 1, 0, 0, 0, false);
        due("2,000 bytes", read(x, s.toString()), 0);
        due("its rules", x.rules(0), 24);
        for (int i = 0; i < 24; i++) {
            due("the price of the first", x.best(0, 1, 0), i + 1);
            if (i % 5 == 0) due("more are struck", read(x, "strike " + (char) ('a' + i) + ";" + struck(i)), 0);
            i += 4 - i % 5;
        }
    }

    private static String struck(int from) {
        StringBuilder s = new StringBuilder();
        for (int i = from + 1; i < from + 5 && i < 24; i++) s.append("strike ").append((char) ('a' + i)).append(";");
        return s.toString();
    }

    private static void signs() {
        holds(4, "SIGNS ; + - * / == != < <= ( ) .");
        String[] good = {"from 1;", "wear a 1+2;", "wear a 1-2;", "wear a 1*2;", "wear a 1/2;", "bar a if 1==2;", "bar a if 1!=2;",
            "bar a if 1<2;", "bar a if 1<=2;", "wear a (1);"};
        for (String s : good) {
            reads(s, 0, NONE);
            reads(s.replaceAll("([^a-z0-9 ]+)", " $1 "), 0, NONE);
        }
        // All that is no letter, no digit, no blank: in the middle of an E these alone go on.
        for (int c = 0; c < 256; c++) {
            boolean word = c >= 'a' && c <= 'z' || c >= '0' && c <= '9' || c == 9 || c == 10 || c == 13 || c == 32;
            if (word) continue;
            String s = "wear a 5" + (char) c + "2;";
            boolean on = "+-*/".indexOf(c) >= 0;
            reads(s, on ? 0 : 1, on ? NONE : c == ';' ? 9 : 8);
        }
    }

    private static void signPairs() {
        holds(4, "== != < <=");
        String all = ";+-*/=!<>()&|,.%^~#";
        for (int i = 0; i < all.length(); i++) {
            for (int j = -1; j < all.length(); j++) {
                String sign = "" + all.charAt(i) + (j < 0 ? "" : all.charAt(j));
                boolean is = List.of("==", "!=", "<", "<=").contains(sign);
                EngineShed x = new EngineShed();
                due("read of 'bar a if 1" + sign + "2;'", read(x, "bar a if 1" + sign + "2;"), is ? 0 : 1);
                due("rules", x.rules(0), is ? 1 : 0);
            }
        }
    }

    // ---- part II: the grammar

    private static void text() {
        holds(4, "text: ['from' INT ';'] {RULE}.");
        reads("", 0, NONE);
        reads("from 7;", 0, NONE);
        reads("strike a;", 0, NONE);
        reads("strike a;strike b;wear c 1;strike d;", 0, NONE);
        reads("from 7;strike a;strike b;", 0, NONE);
        reads("from 7", 1, 6);
        reads("from;", 1, 4);
        reads("7;", 1, 0);
        reads("from day;", 1, 5);
        reads("from (7);", 1, 5);
        reads("from 7 7;", 1, 7);
        reads("from 7;;", 1, 7);
        reads("from 7;from 8;", 1, 7);
        reads("strike a;from 7;", 1, 9);
        reads("strike a;;", 1, 9);
        reads("strike a strike b;", 1, 9);
        for (int from : new int[] {0, 1, 7, 118, 119}) {
            EngineShed x = new EngineShed();
            due("read from " + from, read(x, "from " + from + "; wear a 1; wear b 1;"), 0);
            for (int day = 0; day < 120; day++) due("rules of from " + from + " on " + day, x.rules(day), day < from ? 0 : 2);
        }
    }

    /** A whole rule is read; without one of its tokens the next one, or the text's end, is a fault. */
    private static void without(String... tokens) {
        reads(String.join(" ", tokens), 0, NONE);
        for (int out = 0; out < tokens.length; out++) {
            StringBuilder s = new StringBuilder();
            int place = 0;
            for (int i = 0; i < tokens.length; i++) {
                if (i == out) place = s.length();
                else s.append(tokens[i]).append(i < tokens.length - 1 ? " " : "");
            }
            reads(s.toString(), 1, place);
        }
    }

    private static void ruleTokens() {
        holds(4, "RULE: 'bar' NAME 'if' COND ';' | 'due' NAME 'if' COND ';' | ('wear' | 'coal' | 'price') NAME E ['if' COND] ';' | "
            + "'strike' NAME ';'.");
        without("bar", "a", "if", "1", "<", "2", ";");
        without("due", "a", "if", "1", "<", "2", ";");
        for (String word : new String[] {"wear", "coal", "price"}) {
            without(word, "a", "1", ";");
            without(word, "a", "1", "if", "1", "<", "2", ";");
        }
        without("strike", "a", ";");
    }

    private static void ruleChoices() {
        holds(4, "('wear' | 'coal' | 'price') NAME E ['if' COND] ';'");
        String[] amounts = {"wear", "coal", "price"};
        String[] conditions = {"bar", "due"};
        for (String word : amounts) {
            reads(word + " a 1 if 1 < 2 or 2 < 1;", 0, NONE);
            reads(word + " a if 1 < 2;", 1, word.length() + 3);
            reads(word + " a 1 < 2;", 1, word.length() + 5);
            reads(word + " a 1 or 1 < 2;", 1, word.length() + 5);
            reads(word + " a 1, 2;", 1, word.length() + 4);
            reads(word + " a 1 if 2;", 1, word.length() + 9);
            reads(word + " a 1 if 1 < 2 if 1 < 2;", 1, word.length() + 14);
        }
        for (String word : conditions) {
            reads(word + " a 1 if 1 < 2;", 1, word.length() + 3);
            reads(word + " a;", 1, word.length() + 2);
            reads(word + " a if;", 1, word.length() + 5);
        }
        reads("strike a if 1 < 2;", 1, 9);
        reads("strike a 1;", 1, 9);
        reads("strike a, b;", 1, 8);
    }

    /**
     * A board whose fact 4 is a run on day 8: class 3, miles 44, days 6, looked 4, worn 9, load 7, line 5, hours 5,
     * far 44, lent 1, spare 0. Rules from day 7 on are for that run alone.
     */
    private static EngineShed ready() {
        EngineShed x = new EngineShed();
        x.shed();
        x.shed();
        x.engine(3, 0);
        x.man(255);
        x.turn(1, 1, 3, 8, 44, 7, 5, false);
        read(x, "wear z 9;");
        x.fact(0, 0, 2);
        x.fact(1, 0, 4);
        x.lent(0, 1, 5);
        x.run(0, 0, 0, 6);
        x.run(0, 0, 0, 8);
        return x;
    }

    private static void comesTo(String e, int want) {
        EngineShed x = ready();
        due("read of wear " + e, read(x, "from 7; strike z; wear w " + e + ";"), 0);
        due(e, x.held(4, 5, 1), want);
        EngineShed y = ready();
        due("read of price " + e, read(y, "from 7; price w " + e + ";"), 0);
        due("a price of " + e + " without a turn's part", y.best(7, 0, 5), 0);
    }

    private static void istrue(String condition, boolean want) {
        EngineShed x = ready();
        due("read of bar if " + condition, read(x, "from 7; bar b if " + condition + ";"), 0);
        due("void by " + condition, x.isVoid(4, 5), want ? 4 : 0);
        EngineShed y = ready();
        due("read of wear if " + condition, read(y, "from 7; strike z; wear v 1 if " + condition + "; wear w 2;"), 0);
        due("wear by " + condition, y.held(4, 5, 1), want ? 1 : 2);
    }

    private static void conditions() {
        holds(4, "COND: ALL {'or' ALL}. ALL: LIT {'and' LIT}.");
        for (int bits = 0; bits < 8; bits++) {
            boolean a = (bits & 1) != 0;
            boolean b = (bits & 2) != 0;
            boolean c = (bits & 4) != 0;
            String p = a ? "day == 8" : "day != 8";
            String q = b ? "class < 4" : "class < 3";
            String r = c ? "lent <= 1" : "lent <= 0";
            istrue(p + " or " + q + " and " + r, a || b && c);
            istrue(p + " and " + q + " or " + r, a && b || c);
            istrue(p + " or " + q + " or " + r, a || b || c);
            istrue(p + " and " + q + " and " + r, a && b && c);
            istrue(p + " and " + q + " or " + r + " and " + p, a && b || c && a);
            istrue("not " + p + " and " + q, !a && b);
            istrue("not " + p + " or " + q, !a || b);
            istrue(p + " and not " + q + " or not not " + r, a && !b || c);
            istrue("not " + p + " or not " + q + " and not " + r, !a || !b && !c);
        }
    }

    private static void literals() {
        holds(4, "LIT: 'not' LIT | E ('==' | '!=' | '<' | '<=') E.");
        int[] values = {-9999, -1, 0, 1, 2, 9999};
        for (int left : values) {
            for (int right : values) {
                String l = left < 0 ? "0 - " + -left : "" + left;
                String r = right < 0 ? "0 - " + -right : "" + right;
                istrue(l + " == " + r, left == right);
                istrue(l + " != " + r, left != right);
                istrue(l + " < " + r, left < right);
                istrue(l + " <= " + r, left <= right);
                istrue("not " + l + " < " + r, left >= right);
                istrue("not not " + l + " <= " + r, left <= right);
                istrue("not not not " + l + " == " + r, left != right);
            }
        }
        reads("bar a if not;", 1, 12);
        reads("bar a if 1 not < 2;", 1, 11);
        reads("bar a if 1 < not 2;", 1, 13);
        reads("bar a if not (1 < 2);", 1, 16);
        reads("bar a if (not 1 < 2);", 1, 10);
        reads("bar a if 1 < 2 < 3;", 1, 15);
        reads("bar a if 1 < 2 and or 2 < 3;", 1, 19);
    }

    private static void sums() {
        holds(4, "E: PART {('+' | '-') PART}.");
        comesTo("10 - 3 - 2", 5);
        comesTo("10 - 3 + 2", 9);
        comesTo("10 + 3 - 2", 11);
        comesTo("1 + 2 + 3 + 4 - 5 + 6", 11);
        comesTo("2 + 3 * 4", 14);
        comesTo("2 * 3 + 4 * 5", 26);
        comesTo("20 - 2 * 3 - 4", 10);
        comesTo("20 - 9 / 2 - 4", 12);
        comesTo("3 - 5", 0);
        comesTo("3 - 5 + 4", 2);
        comesTo("9999 - 9000", 999);
        comesTo("9999 - 8999", 999);
        comesTo("9999 - 9001", 998);
    }

    private static void products() {
        holds(4, "PART: UNIT {('*' | '/') UNIT}.");
        comesTo("7 / 2 * 2", 6);
        comesTo("2 * 7 / 2", 7);
        comesTo("100 / 7 / 2", 7);
        comesTo("100 / 5 * 4", 80);
        comesTo("2 * 3 * 4 / 5", 4);
        comesTo("100 * 100 / 100 * 3", 300);
        comesTo("0 / 5", 0);
        comesTo("500 + (0 - 7) / 2", 497);
        comesTo("500 + 7 / (0 - 2)", 497);
        comesTo("500 + (0 - 7) / (0 - 2)", 503);
        comesTo("500 + (0 - 7) / 2 * 2", 494);
    }

    private static void units() {
        holds(4, "UNIT: INT | VAR | '(' E ')'.");
        comesTo("7", 7);
        comesTo("007", 7);
        comesTo("(7)", 7);
        comesTo("day", 8);
        comesTo("(day)", 8);
        comesTo("2 * (3 + 4)", 14);
        comesTo("(2 + 3) * 4", 20);
        comesTo("20 - (3 - 2)", 19);
        comesTo("100 / (7 / 2)", 33);
        comesTo("100 / (7 * 2)", 7);
        comesTo("((((((5))))))", 5);
        comesTo("(1 + (2 * (3 + (4 * (5 + (6))))))", 95);
        comesTo("(1) + (2) * (3) - ((4) - (5))", 8);
        comesTo("900 - (miles - (looked - (worn - (class - (day)))))", 900 - (44 - (4 - (9 - (3 - 8)))));
        reads("wear a ();", 1, 8);
        reads("wear a (1;", 1, 9);
        reads("wear a 1);", 1, 8);
        reads("wear a 1 (2);", 1, 9);
        reads("wear a (1) 2;", 1, 11);
        reads("wear a -1;", 1, 7);
        reads("wear a (-1);", 1, 8);
        reads("wear a name;", 1, 7);
    }

    private static void vars() {
        holds(4, "VAR: 'day' | 'class' | 'miles' | 'days' | 'looked' | 'worn' | 'load' | 'line' | 'hours' | 'far' | 'lent' | 'spare'.");
        int[] values = {8, 3, 44, 6, 4, 9, 7, 5, 5, 44, 1, 0};
        StringBuilder all = new StringBuilder("0");
        int sum = 0;
        for (int i = 0; i < VARS.length; i++) {
            comesTo(VARS[i], values[i]);
            comesTo("900 - " + VARS[i], 900 - values[i]);
            istrue(VARS[i] + " == " + values[i], true);
            istrue(VARS[i] + " < " + values[i], false);
            all.append(" + ").append(VARS[i]);
            sum += values[i];
            reads("wear a " + VARS[i] + "x;", 1, 7);
            reads("wear a " + VARS[i] + " x;", 1, 8 + VARS[i].length());
        }
        comesTo(all.toString(), sum);
        for (String word : new String[] {"bar", "due", "wear", "coal", "price", "strike", "from", "if", "or", "and", "not"}) {
            reads("wear a " + word + ";", 1, 7);
        }
    }

    // ---- part II: rules in force

    private static void inForce() {
        holds(18, "IN FORCE on a DAY: RULES of all texts whose from DAY (0 without) is not behind it, by those DAYS, of one DAY by texts, "
            + "as they stand");
        EngineShed x = new EngineShed();
        int[] from = {5, 0, 5, 0, 3, 119};
        String[] text = {"from 5; bar fa if 1 < 2; due fb if 1 < 2;", "wear nc 1; coal nd 1;", "from 5; price fe 1;",
            "from 0; bar zg if 1 < 2;", "from 3; due th if 1 < 2; strike none; wear ti 1;", "from 119; coal lj 1;"};
        for (int i = 0; i < 6; i++) due("text " + i, read(x, text[i]), 0);
        int[][] all = {{1, 0}, {1, 1}, {3, 0}, {4, 0}, {4, 2}, {0, 0}, {0, 1}, {2, 0}, {5, 0}};
        for (int day = 0; day < 120; day++) {
            int many = 0;
            for (int[] r : all) if (from[r[0]] <= day) many++;
            due("rules on " + day, x.rules(day), many);
            for (int k = 0; k < many; k++) {
                due("text of " + k + " on " + day, x.rule(day, k, 1), all[k][0]);
                due("number of " + k + " on " + day, x.rule(day, k, 2), all[k][1]);
            }
            due("no more", x.rule(day, many, 1), NONE);
        }
    }

    private static void sorts() {
        holds(19, "The k-th of them: what 0 its sort (0 bar, 1 due, 2 wear, 3 coal, 4 price), 1 its text, 2 its number in it");
        String[] sorts = {"bar", "due", "wear", "coal", "price"};
        for (int turn = 0; turn < 5; turn++) {
            EngineShed x = new EngineShed();
            for (int t = 0; t < 6; t++) {
                StringBuilder s = new StringBuilder();
                for (int r = 0; r < 5; r++) {
                    String sort = sorts[(r + t + turn) % 5];
                    boolean amount = !sort.equals("bar") && !sort.equals("due");
                    s.append(sort).append(" ").append((char) ('a' + t)).append((char) ('a' + r)).append(amount ? " 1" : " if 1 < 2").append("; ");
                }
                due("text " + t, read(x, s.toString()), 0);
            }
            due("rules", x.rules(0), 30);
            for (int k = 0; k < 30; k++) {
                due("sort of " + k, x.rule(0, k, 0), (k % 5 + k / 5 + turn) % 5);
                due("text of " + k, x.rule(0, k, 1), k / 5);
                due("number of " + k, x.rule(0, k, 2), k % 5);
                for (int what : new int[] {-1, 3, MIN, MAX}) due("what " + what, x.rule(0, k, what), NONE);
            }
            for (int k : new int[] {-1, 30, MIN, MAX}) due("rule " + k, x.rule(0, k, 0), NONE);
        }
    }
}
