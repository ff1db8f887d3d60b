import java.util.Random;

/** Holds EngineShed against PlainShed over many runs of calls that a fixed seed tells. */
public final class ModelTest {
    private static final String[] VARS = {"day", "class", "miles", "days", "looked", "worn", "load", "line", "hours",
        "far", "lent", "spare"};
    private static final String[] NAMES = {"a", "b", "c", "d", "wa", "heavy", "abcdefgh"};
    private static final String[] ODD = {"abcdefghi", "12345", "=", "!", "if", "day", ";", "(", ")", "not", "from", "x",
        "7", "<", "bar", "strike", "+", "and", "\u00e9", "."};

    // Rules that tell more often than those by chance.
    private static final String[] PLAIN_RULES = {"wear w far / 10 + 1;", "wear v miles / 7 if class == 0;",
        "coal c hours * 2 + lent * 50;", "coal e worn if spare == 0;", "price p 10 * class + miles;",
        "price q 100 - load if class != 1;", "due d if 100 <= miles or 3 < days;", "due k if 2 < looked and not lent == 1;",
        "bar g if class == 1 and 60 < load;", "bar h if 250 < miles + far;", "bar i if 40 < worn;", "strike g;"};

    private final Random random;
    private final EngineShed real = new EngineShed();
    private final PlainShed plain = new PlainShed();
    private final StringBuilder log = new StringBuilder();
    private int calls;
    private String wrong;

    private ModelTest(long seed) {
        random = new Random(seed);
    }

    public static void main(String[] args) {
        int runs = args.length > 0 ? Integer.parseInt(args[0]) : 400;
        long first = args.length > 1 ? Long.parseLong(args[1]) : 1;
        int bad = 0;
        for (long seed = first; seed < first + runs && bad < 3; seed++) {
            ModelTest test = new ModelTest(seed);
            test.play();
            if (test.wrong != null) {
                bad++;
                System.out.println("seed " + seed + ":\n" + test.log + test.wrong);
            }
        }
        System.out.println(bad == 0 ? "both agree" : bad + " runs differ");
        if (bad != 0) System.exit(1);
    }

    private void same(String call, int got, int due) {
        calls++;
        log.append(call).append(" = ").append(due).append('\n');
        if (got != due && wrong == null) wrong = call + " answered " + got + ", the plain one " + due;
    }

    private void same(String call, boolean got, boolean due) {
        same(call, got ? 1 : 0, due ? 1 : 0);
    }

    private int to(int most) {
        return random.nextInt(most + 1);
    }

    /** Mostly below count, now and then just outside. */
    private int near(int count) {
        return random.nextInt(25) == 0 ? (random.nextBoolean() ? -1 : count) : count == 0 ? 0 : random.nextInt(count);
    }

    private int days = 4;
    private int classes = 3;
    // In a calm run more engines are fit for work.
    private boolean calm;

    private int day() {
        return random.nextInt(60) == 0 ? random.nextInt(4) * 41 - 2 : random.nextInt(20) == 0 ? to(119) : to(days);
    }

    private int n() {
        int facts = plain.facts.size();
        return random.nextInt(3) > 0 ? facts : random.nextInt(12) == 0 ? facts + 1 : to(facts) - (random.nextInt(20) == 0 ? 1 : 0);
    }

    // ---- texts

    private String pick(String[] of) {
        return of[random.nextInt(of.length)];
    }

    private String blank() {
        return random.nextInt(6) == 0 ? pick(new String[] {"\n", "  ", "\t", "\r"}) : " ";
    }

    private String unit(int depth) {
        int r = random.nextInt(8);
        if (r < 3) return "" + to(random.nextBoolean() ? 12 : 9999);
        if (r < 7 || depth > 6) return pick(VARS);
        return "(" + expression(depth + 1) + ")";
    }

    private String expression(int depth) {
        StringBuilder s = new StringBuilder(unit(depth));
        while (random.nextInt(3) == 0) s.append(blank()).append("+-*/".charAt(random.nextInt(4))).append(blank()).append(unit(depth));
        return s.toString();
    }

    private String condition() {
        StringBuilder s = new StringBuilder();
        do {
            if (s.length() > 0) s.append(random.nextBoolean() ? " and " : " or ");
            while (random.nextInt(4) == 0) s.append("not ");
            s.append(expression(0)).append(blank()).append(pick(new String[] {"==", "!=", "<", "<="})).append(expression(0));
        } while (random.nextInt(3) == 0);
        return s.toString();
    }

    private String rule() {
        String name = pick(NAMES);
        switch (random.nextInt(7)) {
            case 0: return "bar " + name + " if " + condition() + ";";
            case 1: return "due " + name + " if " + condition() + blank() + ";";
            case 2: return "strike " + name + ";";
            default:
                String sort = pick(new String[] {"wear", "coal", "price"});
                return sort + blank() + name + " " + expression(0) + (random.nextBoolean() ? " if " + condition() : "") + ";";
        }
    }

    private String text() {
        StringBuilder s = new StringBuilder();
        if (random.nextBoolean()) s.append("from ").append(random.nextInt(12) == 0 ? 115 + to(10) : to(days)).append(";");
        int rules = random.nextInt(40) == 0 ? 23 + to(3) : to(8);
        boolean sensible = random.nextBoolean();
        for (int i = 0; i < rules && s.length() < 1700; i++) s.append(sensible ? pick(PLAIN_RULES) : rule()).append(blank());
        if (random.nextInt(3) == 0) {
            int at = to(s.length());
            if (random.nextBoolean()) s.insert(at, pick(ODD));
            else s.delete(at, Math.min(s.length(), at + 1 + to(4)));
        }
        return s.length() > 1980 ? s.substring(0, 1980) : s.toString();
    }

    private void tell(String s) {
        int at = 0;
        while (at < s.length()) {
            int[] w = new int[5];
            for (int i = 0; i < 20; i++) w[i / 4] = w[i / 4] << 8 | (at + i < s.length() ? s.charAt(at + i) : 32);
            same("feed(..)", real.feed(w[0], w[1], w[2], w[3], w[4]), plain.feed(w[0], w[1], w[2], w[3], w[4]));
            at += 20;
        }
        int over = at - s.length();
        if (over > 0 && random.nextInt(5) > 0) same("back(" + over + ")", real.back(over), plain.back(over));
        log.append("    text: ").append(s).append('\n');
        same("read()", real.read(), plain.read());
        same("place()", real.place(), plain.place());
    }

    // ---- the run of calls

    private void play() {
        days = 1 + to(6);
        classes = random.nextBoolean() ? 6 : 2;
        calm = random.nextBoolean();
        int sheds = random.nextInt(20) == 0 ? 0 : 1 + to(4);
        for (int i = 0; i < sheds; i++) same("shed()", real.shed(), plain.shed());
        for (int i = 0; i < 4 + to(6); i++) addEngine();
        for (int i = 0; i < 2 + to(7); i++) addMan();
        for (int i = 0; i < 4 + to(9); i++) addTurn();
        while (calls < 512 && wrong == null) {
            if (random.nextInt(40) == 0 && calls < 400) tell(text());
            else if (random.nextInt(5) < 2) tellFact();
            else if (random.nextInt(3) > 0) askBoard();
            else askChoice();
        }
    }

    private void addEngine() {
        int clas = near(classes);
        int home = near(plain.sheds);
        same("engine(" + clas + ", " + home + ")", real.engine(clas, home), plain.engine(clas, home));
    }

    private void addMan() {
        int lines = random.nextInt(10) == 0 ? to(257) - 1 : 255 & ~(1 << to(7));
        same("man(" + lines + ")", real.man(lines), plain.man(lines));
    }

    private void addTurn() {
        int from = near(plain.sheds);
        int to = near(plain.sheds);
        int a = to(20) - (random.nextInt(20) == 0 ? 1 : 0);
        int b = a + 1 + to(5) - (random.nextInt(20) == 0 ? 2 : 0);
        int miles = to(random.nextInt(20) == 0 ? 402 : 200) - (random.nextInt(30) == 0 ? 1 : 0);
        int load = to(random.nextInt(9) == 0 ? 101 : 99);
        int line = near(8);
        boolean spare = random.nextInt(4) == 0;
        same("turn(" + from + ", " + to + ", " + a + ", " + b + ", " + miles + ", " + load + ", " + line + ", " + spare + ")",
            real.turn(from, to, a, b, miles, load, line, spare), plain.turn(from, to, a, b, miles, load, line, spare));
    }

    private void tellFact() {
        int e = near(plain.engines.size());
        int d = day();
        int s = near(plain.sheds);
        int r = calm && random.nextInt(3) > 0 ? 9 : random.nextInt(16);
        switch (r) {
            case 0: {
                int kind = near(4);
                same("fact(" + kind + ", " + e + ", " + d + ")", real.fact(kind, e, d), plain.fact(kind, e, d));
                break;
            }
            case 1: case 2: {
                int kind = to(3);
                same("fact(" + kind + ", " + e + ", " + d + ")", real.fact(kind, e, d), plain.fact(kind, e, d));
                break;
            }
            case 3: {
                int until = d + to(3) - random.nextInt(2);
                same("shops(" + e + ", " + d + ", " + until + ")", real.shops(e, d, until), plain.shops(e, d, until));
                break;
            }
            case 4: case 5: {
                int hour = near(24);
                same("fails(" + e + ", " + d + ", " + hour + ")", real.fails(e, d, hour), plain.fails(e, d, hour));
                break;
            }
            case 6:
                same("lent(" + e + ", " + s + ", " + d + ")", real.lent(e, s, d), plain.lent(e, s, d));
                break;
            case 7: {
                int v = to(random.nextInt(9) == 0 ? 10001 : 300) - (random.nextInt(20) == 0 ? 1 : 0);
                same("coals(" + s + ", " + d + ", " + v + ")", real.coals(s, d, v), plain.coals(s, d, v));
                break;
            }
            case 8: {
                int v = to(random.nextInt(9) == 0 ? 10001 : 300) - (random.nextInt(20) == 0 ? 1 : 0);
                int run = ofKind("RUN", plain.facts.size());
                same("mile(" + run + ", " + v + ")", real.mile(run, v), plain.mile(run, v));
                break;
            }
            default: tellRun(e, d);
        }
    }

    private void tellRun(int e, int d) {
        int t = near(plain.turns.size());
        int m = near(plain.men.size());
        // A turn from where the engine stands, more often than by chance.
        for (int i = 0; i < 6 && plain.engineIs(e) && t >= 0 && t < plain.turns.size(); i++) {
            if (!plain.dayIs(d) || plain.turns.get(t).from() == plain.state(e, d, plain.facts.size(), 0)) break;
            t = near(plain.turns.size());
        }
        same("run(" + e + ", " + t + ", " + m + ", " + d + ")", real.run(e, t, m, d), plain.run(e, t, m, d));
    }

    private void askBoard() {
        int n = n();
        int f = ofKind("RUN", n);
        int d = day();
        int e = near(plain.engines.size());
        int s = near(plain.sheds);
        switch (random.nextInt(13)) {
            case 0: same("rules(" + d + ")", real.rules(d), plain.rules(d)); break;
            case 1: {
                int k = near(plain.rules(Math.max(0, Math.min(119, d))));
                int what = near(3);
                same("rule(" + d + ", " + k + ", " + what + ")", real.rule(d, k, what), plain.rule(d, k, what));
                break;
            }
            case 2: case 3: {
                int what = near(7);
                same("state(" + e + ", " + d + ", " + n + ", " + what + ")", real.state(e, d, n, what), plain.state(e, d, n, what));
                break;
            }
            case 4: same("isVoid(" + f + ", " + n + ")", real.isVoid(f, n), plain.isVoid(f, n)); break;
            case 5: {
                int what = near(5);
                same("held(" + f + ", " + n + ", " + what + ")", real.held(f, n, what), plain.held(f, n, what));
                break;
            }
            case 6: same("bar(" + f + ", " + n + ")", real.bar(f, n), plain.bar(f, n)); break;
            case 7: same("due(" + e + ", " + d + ", " + n + ")", real.due(e, d, n), plain.due(e, d, n)); break;
            case 8: {
                int b = day();
                same("beyond(" + d + ", " + b + ", " + n + ")", real.beyond(d, b, n), plain.beyond(d, b, n));
                break;
            }
            case 9: askHelp(n); break;
            case 10: same("coal(" + s + ", " + d + ", " + n + ")", real.coal(s, d, n), plain.coal(s, d, n)); break;
            case 11: {
                int o = near(plain.sheds);
                int c = to(4) - 1 - (random.nextInt(20) == 0 ? 1 : 0);
                same("owes(" + s + ", " + o + ", " + c + ", " + d + ", " + n + ")", real.owes(s, o, c, d, n), plain.owes(s, o, c, d, n));
                break;
            }
            default: {
                int m = n();
                same("turned(" + n + ", " + m + ")", real.turned(n, m), plain.turned(n, m));
            }
        }
    }

    /** A fact of a kind below n, mostly. */
    private int ofKind(String kind, int n) {
        int f = near(Math.max(n, 0));
        for (int i = 0; i < n && random.nextInt(60) > 0; i++) {
            if (plain.isKind(f, Math.min(n, plain.facts.size()), kind)) break;
            f = (Math.max(0, f) + 1) % n;
        }
        return f;
    }

    private void askHelp(int n) {
        int f = ofKind("FAILS", n);
        same("help(" + f + ", " + n + ")", real.help(f, n), plain.help(f, n));
    }

    private int someBits(int count, int most) {
        if (random.nextInt(25) == 0) return random.nextBoolean() ? -1 : 1 << count;
        int set = count == 0 ? 0 : random.nextInt(1 << count);
        while (Integer.bitCount(set) > most && random.nextInt(20) > 0) set &= ~(1 << random.nextInt(count));
        return set;
    }

    private void askChoice() {
        switch (random.nextInt(11)) {
            case 0: case 1: askBest(); break;
            case 2: {
                int t = near(plain.turns.size());
                same("given(" + t + ")", real.given(t), plain.given(t));
                same("lack()", real.lack(), plain.lack());
                break;
            }
            case 3: case 4: askRoads(); break;
            case 5: {
                int c = near(6);
                int t = near(plain.turns.size());
                boolean is = random.nextInt(3) == 0;
                same("may(" + c + ", " + t + ", " + is + ")", real.may(c, t, is), plain.may(c, t, is));
                break;
            }
            case 6: case 7: askMonths(); break;
            case 8: {
                int n = n();
                same("causes(" + n + ")", real.causes(n), plain.causes(n));
                int i = to(4) - (random.nextInt(9) == 0 ? 1 : 0);
                same("cause(" + n + ", " + i + ")", real.cause(n, i), plain.cause(n, i));
                break;
            }
            case 9: {
                int what = near(7);
                same("count(" + what + ")", real.count(what), plain.count(what));
                break;
            }
            default: askAdd();
        }
    }

    private void askAdd() {
        switch (random.nextInt(5)) {
            case 0: same("shed()", real.shed(), plain.shed()); break;
            case 1: addEngine(); break;
            case 2: addTurn(); break;
            case 3: addMan(); break;
            default: {
                int a = near(plain.sheds);
                int b = near(plain.sheds);
                int h = near(10);
                same("way(" + a + ", " + b + ", " + h + ")", real.way(a, b, h), plain.way(a, b, h));
            }
        }
    }

    private void askBest() {
        int n = n();
        int d = day();
        int set = someBits(plain.turns.size(), 1 + to(5));
        same("best(" + d + ", " + set + ", " + n + ")", real.best(d, set, n), plain.best(d, set, n));
        same("lack()", real.lack(), plain.lack());
        for (int t = 0; t < plain.turns.size(); t++) {
            if ((set >> t & 1) != 0) same("given(" + t + ")", real.given(t), plain.given(t));
        }
    }

    private void askRoads() {
        if (random.nextInt(4) == 0) {
            real.clear();
            plain.clear();
            log.append("clear()\n");
            calls++;
        }
        for (int i = 0; i < 3; i++) {
            int e = near(plain.engines.size());
            int o = random.nextInt(4) == 0 ? near(plain.engines.size()) : e;
            same("lines(false, " + e + ")", real.lines(false, e), plain.lines(false, e));
            same("lines(true, " + o + ")", real.lines(true, o), plain.lines(true, o));
        }
        // What is missing in the other row comes, the latest first, so that the rows are often of the same.
        for (int i = plain.in.size() - 1; i >= 0 && random.nextInt(8) > 0; i--) {
            int e = plain.in.get(i);
            if (!plain.out.contains(e)) same("lines(true, " + e + ")", real.lines(true, e), plain.lines(true, e));
        }
        int many = random.nextInt(9) == 0 ? to(4) : 1 + to(2);
        same("roads(" + many + ")", real.roads(many), plain.roads(many));
        for (int e = 0; e < plain.engines.size(); e++) same("road(" + e + ")", real.road(e), plain.road(e));
    }

    private void askMonths() {
        int set = someBits(plain.engines.size(), 1 + to(4));
        int w = random.nextInt(15) == 0 ? to(6) : 1 + to(4);
        int p = random.nextInt(15) == 0 ? to(6) : 1 + to(2);
        int turns = someBits(plain.turns.size(), 1 + to(5));
        int f = random.nextInt(15) == 0 ? to(3) - 1 : to(1);
        same("months(" + set + ", " + w + ", " + p + ", " + turns + ", " + f + ")", real.months(set, w, p, turns, f), plain.months(set, w, p, turns, f));
        for (int e = -1; e <= plain.engines.size(); e++) if (random.nextInt(2) == 0) same("month(" + e + ")", real.month(e), plain.month(e));
    }
}
