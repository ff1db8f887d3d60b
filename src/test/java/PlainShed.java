import java.util.ArrayList;
import java.util.Comparator;
import java.util.HashMap;
import java.util.HashSet;
import java.util.LinkedHashMap;
import java.util.List;
import java.util.Map;
import java.util.Set;
import java.util.TreeSet;

/**
 * The document once more, with the library's means and no thrift at all: every answer is worked out from the
 * beginning, every choice by trying all. ModelTest holds EngineShed against it.
 */
final class PlainShed {
    record Way(int a, int b) { }
    record Turn(int from, int to, int a, int b, int miles, int load, int line, boolean spare) { }
    record Fact(String kind, int engine, int day, int x, int y) { }
    record Rule(String sort, String name, Expr value, Cond cond, int text, int number) { }
    record Text(int from, List<Rule> rules) { }
    interface Expr { int of(Map<String, Integer> vars) throws ByZero; }
    interface Cond { boolean of(Map<String, Integer> vars); }
    static final class ByZero extends Exception { }
    static final class Fault extends Exception {
        final int number;
        final int place;
        Fault(int number, int place) { this.number = number; this.place = place; }
    }

    int sheds;
    final Map<Way, Integer> ways = new HashMap<>();
    final List<int[]> engines = new ArrayList<>();
    final List<Integer> men = new ArrayList<>();
    final List<Turn> turns = new ArrayList<>();
    final List<Fact> facts = new ArrayList<>();
    final List<Text> texts = new ArrayList<>();
    final List<Integer> tape = new ArrayList<>();
    int faultPlace = -1;
    Map<Integer, Integer> given = new HashMap<>();
    int lack = -1;
    final List<Integer> in = new ArrayList<>();
    final List<Integer> out = new ArrayList<>();
    Map<Integer, Integer> road = new HashMap<>();
    Map<Integer, Integer> month = new HashMap<>();
    final Set<List<Integer>> mayNot = new HashSet<>();

    // ---- the tape and the texts

    int feed(int a, int b, int c, int d, int e) {
        if (tape.size() > 1980) return -1;
        for (int w : new int[] {a, b, c, d, e}) {
            tape.add(w >>> 24);
            tape.add(w >>> 16 & 255);
            tape.add(w >>> 8 & 255);
            tape.add(w & 255);
        }
        return tape.size();
    }

    int back(int n) {
        if (n < 0 || n > tape.size()) return -1;
        for (int i = 0; i < n; i++) tape.remove(tape.size() - 1);
        return tape.size();
    }

    int read() {
        if (texts.size() == 6) return -2;
        StringBuilder s = new StringBuilder();
        for (int c : tape) s.append((char) c);
        tape.clear();
        try {
            texts.add(new Parser(s.toString(), texts.size()).text());
            faultPlace = -1;
            return 0;
        } catch (Fault f) {
            faultPlace = f.place;
            return f.number;
        }
    }

    int place() { return faultPlace; }

    static final class Parser {
        static final Set<String> WORDS = Set.of("from", "bar", "if", "due", "wear", "coal", "price", "strike", "or",
            "and", "not", "day", "class", "miles", "days", "looked", "worn", "load", "line", "hours", "far", "lent",
            "spare");
        static final Set<String> VARS = Set.of("day", "class", "miles", "days", "looked", "worn", "load", "line",
            "hours", "far", "lent", "spare");
        final String s;
        final int number;
        int at;
        int count;
        // The token ahead: its text ("" at the end), its sort (a word itself, NAME, INT, a sign, "?" for none).
        String token;
        String sort;
        int place;

        Parser(String s, int number) {
            this.s = s;
            this.number = number;
            peekNext();
        }

        void peekNext() {
            while (at < s.length() && "\t\n\r ".indexOf(s.charAt(at)) >= 0) at++;
            place = at;
            if (at == s.length()) { token = ""; sort = "END"; return; }
            String rest = s.substring(at);
            token = rest.replaceFirst("(?s)^([a-z]+|[0-9]+|==|!=|<=|.).*$", "$1");
            at += token.length();
            if (token.matches("[a-z]+")) sort = token.length() > 8 ? "?" : WORDS.contains(token) ? token : "NAME";
            else if (token.matches("[0-9]+")) sort = token.length() > 4 ? "?" : "INT";
            else sort = Set.of(";", "+", "-", "*", "/", "==", "!=", "<", "<=", "(", ")").contains(token) ? token : "?";
        }

        boolean ahead(String... sorts) { return List.of(sorts).contains(sort); }

        String eat(String... sorts) throws Fault {
            if (!ahead(sorts)) throw new Fault(1, place);
            if (count == 400) throw new Fault(2, place);
            count++;
            String t = token;
            peekNext();
            return t;
        }

        Text text() throws Fault {
            int from = 0;
            int dayAt = 0;
            if (ahead("from")) {
                eat("from");
                dayAt = place;
                from = Integer.parseInt(eat("INT"));
                eat(";");
            }
            List<Rule> rules = new ArrayList<>();
            while (!ahead("END")) {
                if (ahead("bar", "due", "wear", "coal", "price", "strike") && rules.size() == 24) throw new Fault(2, place);
                rules.add(rule(rules.size()));
            }
            if (from > 119) throw new Fault(5, dayAt);
            return new Text(from, rules);
        }

        Rule rule(int r) throws Fault {
            String kind = eat("bar", "due", "wear", "coal", "price", "strike");
            String name = eat("NAME");
            Expr value = null;
            Cond cond = v -> true;
            if (kind.equals("bar") || kind.equals("due")) {
                eat("if");
                cond = cond();
            } else if (!kind.equals("strike")) {
                value = e(0);
                if (ahead("if")) {
                    eat("if");
                    cond = cond();
                }
            }
            eat(";");
            return new Rule(kind, name, value, cond, number, r);
        }

        Cond cond() throws Fault {
            Cond c = all();
            while (ahead("or")) {
                eat("or");
                Cond l = c;
                Cond r = all();
                c = v -> l.of(v) || r.of(v);
            }
            return c;
        }

        Cond all() throws Fault {
            Cond c = lit();
            while (ahead("and")) {
                eat("and");
                Cond l = c;
                Cond r = lit();
                c = v -> l.of(v) && r.of(v);
            }
            return c;
        }

        Cond lit() throws Fault {
            if (ahead("not")) {
                eat("not");
                Cond c = lit();
                return v -> !c.of(v);
            }
            Expr l = e(0);
            String sign = eat("==", "!=", "<", "<=");
            Expr r = e(0);
            return v -> {
                try {
                    int x = l.of(v);
                    int y = r.of(v);
                    return sign.equals("==") ? x == y : sign.equals("!=") ? x != y : sign.equals("<") ? x < y : x <= y;
                } catch (ByZero z) {
                    return false;
                }
            };
        }

        Expr e(int depth) throws Fault {
            Expr e = part(depth);
            while (ahead("+", "-")) {
                String sign = eat("+", "-");
                Expr l = e;
                Expr r = part(depth);
                e = sign.equals("+") ? v -> l.of(v) + r.of(v) : v -> l.of(v) - r.of(v);
            }
            return e;
        }

        Expr part(int depth) throws Fault {
            Expr e = unit(depth);
            while (ahead("*", "/")) {
                String sign = eat("*", "/");
                Expr l = e;
                Expr r = unit(depth);
                e = sign.equals("*") ? v -> l.of(v) * r.of(v) : v -> {
                    int x = l.of(v);
                    int y = r.of(v);
                    if (y == 0) throw new ByZero();
                    return x / y;
                };
            }
            return e;
        }

        Expr unit(int depth) throws Fault {
            if (ahead("INT")) {
                int c = Integer.parseInt(eat("INT"));
                return v -> c;
            }
            for (String var : VARS) {
                if (ahead(var)) {
                    eat(var);
                    return v -> v.get(var);
                }
            }
            if (ahead("(") && depth == 6) throw new Fault(2, place);
            eat("(");
            Expr e = e(depth + 1);
            eat(")");
            return e;
        }
    }

    List<Rule> inForce(int day) {
        List<Text> holding = new ArrayList<>();
        for (Text t : texts) if (t.from <= day) holding.add(t);
        holding.sort(Comparator.comparingInt(Text::from));
        LinkedHashMap<String, Rule> force = new LinkedHashMap<>();
        for (Text t : holding) {
            for (Rule r : t.rules) {
                if (r.sort.equals("strike")) force.remove(r.name);
                else force.put(r.name, r);
            }
        }
        return new ArrayList<>(force.values());
    }

    int rules(int day) { return day < 0 || day > 119 ? -1 : inForce(day).size(); }

    int rule(int day, int k, int what) {
        if (day < 0 || day > 119 || k < 0 || k >= inForce(day).size() || what < 0 || what > 2) return -1;
        Rule r = inForce(day).get(k);
        return what == 0 ? List.of("bar", "due", "wear", "coal", "price").indexOf(r.sort) : what == 1 ? r.text : r.number;
    }

    static int first(List<Rule> force, String sort, Map<String, Integer> vars) {
        for (int k = 0; k < force.size(); k++) if (force.get(k).sort.equals(sort) && force.get(k).cond.of(vars)) return k;
        return -1;
    }

    static int amount(List<Rule> force, String sort, Map<String, Integer> vars, int most) {
        int k = first(force, sort, vars);
        if (k < 0) return 0;
        try {
            return Math.max(0, Math.min(most, force.get(k).value.of(vars)));
        } catch (ByZero z) {
            return 0;
        }
    }

    // ---- what is told

    int shed() { return sheds == 5 ? -1 : sheds++; }

    boolean way(int a, int b, int h) {
        if (!shedIs(a) || !shedIs(b) || a == b || h < 0 || h > 9) return false;
        ways.put(new Way(a, b), h);
        ways.put(new Way(b, a), h);
        return true;
    }

    boolean shedIs(int s) { return s >= 0 && s < sheds; }
    boolean engineIs(int e) { return e >= 0 && e < engines.size(); }
    boolean dayIs(int d) { return d >= 0 && d <= 119; }
    boolean nIs(int n) { return n >= 0 && n <= facts.size(); }

    int engine(int clas, int home) {
        if (engines.size() == 9 || clas < 0 || clas > 5 || !shedIs(home)) return -1;
        engines.add(new int[] {clas, home});
        return engines.size() - 1;
    }

    int man(int lines) {
        if (men.size() == 8 || lines < 0 || lines > 255) return -1;
        men.add(lines);
        return men.size() - 1;
    }

    int turn(int from, int to, int a, int b, int miles, int load, int line, boolean spare) {
        if (spare) { to = from; miles = 0; }
        if (turns.size() == 12 || !shedIs(from) || !shedIs(to) || a < 0 || b > 24 || a >= b || miles < 0 || miles > 400
            || load < 0 || load > 99 || line < 0 || line > 7) return -1;
        turns.add(new Turn(from, to, a, b, miles, load, line, spare));
        return turns.size() - 1;
    }

    int add(boolean fine, Fact f) {
        if (!fine || facts.size() == 180) return -1;
        facts.add(f);
        return facts.size() - 1;
    }

    int run(int engine, int turn, int man, int day) {
        boolean fine = engineIs(engine) && turn >= 0 && turn < turns.size() && man >= 0 && man < men.size() && dayIs(day);
        return add(fine, new Fact("RUN", engine, day, turn, man));
    }

    int mile(int run, int v) {
        boolean fine = run >= 0 && run < facts.size() && facts.get(run).kind.equals("RUN") && v >= 0 && v <= 9999;
        return add(fine, new Fact("MILE", -1, -1, run, v));
    }

    int fact(int kind, int engine, int day) {
        if (kind < 0 || kind > 3) return -1;
        return add(engineIs(engine) && dayIs(day), new Fact(List.of("WASH", "LOOK", "MENDED", "HOME").get(kind), engine, day, 0, 0));
    }

    int shops(int engine, int day, int until) {
        return add(engineIs(engine) && dayIs(day) && dayIs(until), new Fact("SHOPS", engine, day, until, 0));
    }

    int fails(int engine, int day, int hour) {
        return add(engineIs(engine) && dayIs(day) && hour >= 0 && hour <= 23, new Fact("FAILS", engine, day, hour, 0));
    }

    int lent(int engine, int shed, int day) {
        return add(engineIs(engine) && dayIs(day) && shedIs(shed), new Fact("LENT", engine, day, shed, 0));
    }

    int coals(int shed, int day, int v) {
        return add(shedIs(shed) && dayIs(day) && v >= 0 && v <= 9999, new Fact("COALS", -1, day, shed, v));
    }

    // ---- the days

    static final class Now {
        int at;
        String how = "sound";
        int until;
        int miles;
        int wear;
        int washed;
        int looked;
        int keeper;
        boolean dueToday;
        boolean washedToday;
        List<Integer> ranToday = new ArrayList<>();
    }

    static final class Seen {
        int reason = -1;
        int barK = -1;
        int miles;
        int wear;
        int coal;
        boolean beyond;
        int ahead;
        boolean halved;
        boolean failed;
        int stood;
        int man = -1;
    }

    final class World {
        final List<Now> now = new ArrayList<>();
        final Map<Integer, Seen> seen = new HashMap<>();
        final int n;

        /** All facts known by n up to the end of `last`, or up to its morning. */
        World(int n, int last, boolean morning) {
            this.n = n;
            for (int[] e : engines) {
                Now w = new Now();
                w.at = e[1];
                w.keeper = e[1];
                now.add(w);
            }
            for (int day = 0; day <= last; day++) {
                List<Rule> force = inForce(day);
                for (int e = 0; e < now.size(); e++) dawn(e, day, force);
                if (day == last && morning) return;
                for (int f = 0; f < n; f++) if (facts.get(f).day == day) step(f, force);
            }
        }

        void dawn(int e, int day, List<Rule> force) {
            Now w = now.get(e);
            if (w.how.equals("shops") && w.until == day) {
                w.how = "sound";
                w.at = engines.get(e)[1];
                w.miles = w.wear = 0;
                w.washed = w.looked = day;
            }
            w.washedToday = false;
            w.ranToday.clear();
            w.dueToday = first(force, "due", vars(e, day, null)) >= 0;
        }

        Map<String, Integer> vars(int e, int day, Turn t) {
            Now w = now.get(e);
            Map<String, Integer> v = new HashMap<>();
            v.put("day", day);
            v.put("class", engines.get(e)[0]);
            v.put("miles", w.miles);
            v.put("worn", w.wear);
            v.put("days", day - w.washed);
            v.put("looked", day - w.looked);
            v.put("lent", w.keeper != engines.get(e)[1] ? 1 : 0);
            v.put("load", t == null ? 0 : t.load);
            v.put("line", t == null ? 0 : t.line);
            v.put("hours", t == null ? 0 : t.b - t.a);
            v.put("far", t == null ? 0 : t.miles);
            v.put("spare", t != null && t.spare ? 1 : 0);
            return v;
        }

        int milesOf(int run) {
            int m = turns.get(facts.get(run).x).miles;
            for (int f = 0; f < n; f++) if (facts.get(f).kind.equals("MILE") && facts.get(f).x == run) m = facts.get(f).y;
            return m;
        }

        void step(int number, List<Rule> force) {
            Fact f = facts.get(number);
            if (f.engine < 0) return;
            Now w = now.get(f.engine);
            int home = engines.get(f.engine)[1];
            boolean sound = w.how.equals("sound");
            boolean ran = !w.ranToday.isEmpty();
            switch (f.kind) {
                case "WASH" -> { if (sound && !ran) { w.miles = 0; w.washed = f.day; w.washedToday = true; } }
                case "LOOK" -> { if (sound) w.looked = f.day; }
                case "MENDED" -> { if (w.how.equals("failed")) w.how = "sound"; }
                case "HOME" -> lend(w, home);
                case "LENT" -> lend(w, f.x);
                case "SHOPS" -> { if (sound && !ran && f.x > f.day) { w.how = "shops"; w.until = f.x; } }
                case "FAILS" -> fail(number, w);
                case "RUN" -> run(number, w, force);
                default -> { }
            }
        }

        void lend(Now w, int shed) {
            if (w.how.equals("sound") && w.keeper != shed) { w.keeper = shed; w.at = shed; }
        }

        void fail(int number, Now w) {
            Seen s = new Seen();
            seen.put(number, s);
            if (!w.how.equals("sound")) return;
            s.failed = true;
            w.how = "failed";
            if (!w.ranToday.isEmpty()) {
                int last = w.ranToday.get(w.ranToday.size() - 1);
                Seen r = seen.get(last);
                if (!r.halved) {
                    w.miles = w.miles - r.miles + r.miles / 2;
                    r.miles = r.miles / 2;
                    r.halved = true;
                }
                w.at = turns.get(facts.get(last).x).from;
                s.man = facts.get(last).y;
            }
            s.stood = w.at;
        }

        void run(int number, Now w, List<Rule> force) {
            Fact f = facts.get(number);
            Turn t = turns.get(f.x);
            Seen s = new Seen();
            seen.put(number, s);
            Map<String, Integer> v = vars(f.engine, f.day, t);
            boolean overlaps = false;
            boolean turnRan = false;
            int sum = t.b - t.a;
            for (int g : seen.keySet()) {
                Fact other = facts.get(g);
                if (!other.kind.equals("RUN") || other.day != f.day || seen.get(g).reason != 0) continue;
                Turn o = turns.get(other.x);
                if (other.x == f.x) turnRan = true;
                if (other.y == f.y) {
                    sum += o.b - o.a;
                    overlaps |= o.a < t.b && t.a < o.b;
                }
            }
            boolean late = false;
            for (int g : w.ranToday) late |= turns.get(facts.get(g).x).b > t.a;
            int bar = first(force, "bar", v);
            if (!w.how.equals("sound") || w.washedToday) s.reason = 1;
            else if (w.at != t.from) s.reason = 2;
            else if (late) s.reason = 3;
            else if (bar >= 0) { s.reason = 4; s.barK = bar; }
            else if (overlaps || sum > 10) s.reason = 5;
            else if ((men.get(f.y) & 1 << t.line) == 0) s.reason = 6;
            else if (turnRan) s.reason = 7;
            else {
                s.reason = 0;
                s.miles = milesOf(number);
                s.wear = amount(force, "wear", v, 999);
                s.coal = amount(force, "coal", v, 999);
                s.beyond = w.dueToday;
                s.ahead = w.miles;
                w.miles += s.miles;
                w.wear += s.wear;
                w.at = t.to;
                w.ranToday.add(number);
            }
        }
    }

    World all(int n) { return new World(n, 119, false); }

    int state(int engine, int day, int n, int what) {
        if (!engineIs(engine) || !dayIs(day) || !nIs(n)) return -1;
        Now w = new World(n, day, false).now.get(engine);
        return switch (what) {
            case 0 -> w.how.equals("shops") ? -1 : w.at;
            case 1 -> List.of("sound", "shops", "failed").indexOf(w.how);
            case 2 -> w.miles;
            case 3 -> w.wear;
            case 4 -> day - w.washed;
            case 5 -> day - w.looked;
            case 6 -> w.keeper;
            default -> -1;
        };
    }

    boolean isKind(int fact, int n, String kind) {
        return nIs(n) && fact >= 0 && fact < n && facts.get(fact).kind.equals(kind);
    }

    int isVoid(int fact, int n) { return isKind(fact, n, "RUN") ? all(n).seen.get(fact).reason : -1; }

    int held(int fact, int n, int what) {
        if (!isKind(fact, n, "RUN")) return -1;
        Seen s = all(n).seen.get(fact);
        if (s.reason != 0) return -1;
        return switch (what) {
            case 0 -> s.miles;
            case 1 -> s.wear;
            case 2 -> s.coal;
            case 3 -> s.beyond ? 1 : 0;
            case 4 -> s.ahead;
            default -> -1;
        };
    }

    int bar(int fact, int n) { return isKind(fact, n, "RUN") ? all(n).seen.get(fact).barK : -1; }

    int due(int engine, int day, int n) {
        if (!engineIs(engine) || !dayIs(day) || !nIs(n)) return -1;
        return new World(n, day, true).now.get(engine).dueToday ? 1 : 0;
    }

    int beyond(int a, int b, int n) {
        if (!dayIs(a) || !dayIs(b) || b < a || !nIs(n)) return -1;
        World w = all(n);
        int count = 0;
        for (int f : w.seen.keySet()) {
            if (facts.get(f).day >= a && facts.get(f).day <= b && w.seen.get(f).reason == 0 && w.seen.get(f).beyond) count++;
        }
        return count;
    }

    int help(int fact, int n) {
        if (!isKind(fact, n, "FAILS")) return -1;
        World w = all(n);
        Seen s = w.seen.get(fact);
        if (!s.failed) return -1;
        int hour = facts.get(fact).x;
        List<int[]> helpers = new ArrayList<>();
        for (int f = 0; f < n; f++) {
            Fact r = facts.get(f);
            if (!r.kind.equals("RUN") || r.day != facts.get(fact).day || w.seen.get(f).reason != 0) continue;
            Turn t = turns.get(r.x);
            if (r.engine == facts.get(fact).engine || !t.spare || hour < t.a || hour >= t.b) continue;
            int way = t.from == s.stood ? 0 : ways.getOrDefault(new Way(t.from, s.stood), 1);
            helpers.add(new int[] {way, r.engine});
        }
        helpers.sort(Comparator.<int[]>comparingInt(h -> h[0]).thenComparingInt(h -> h[1]));
        return helpers.isEmpty() ? -2 : helpers.get(0)[1];
    }

    int coal(int shed, int day, int n) {
        if (!shedIs(shed) || !dayIs(day) || !nIs(n)) return -1000000;
        World w = new World(n, day, false);
        int tons = 0;
        for (int f = 0; f < n; f++) {
            Fact c = facts.get(f);
            if (c.kind.equals("COALS") && c.day <= day && c.x == shed) tons += c.y;
            if (c.kind.equals("RUN") && c.day <= day && turns.get(c.x).from == shed && w.seen.get(f).reason == 0) tons -= w.seen.get(f).coal;
        }
        return tons;
    }

    int owes(int one, int other, int clas, int day, int n) {
        if (!shedIs(one) || !shedIs(other) || one == other || clas < -1 || clas > 5 || !dayIs(day) || !nIs(n)) return -1000000;
        World w = new World(n, day, false);
        int owed = 0;
        for (int e = 0; e < engines.size(); e++) {
            if (clas != -1 && engines.get(e)[0] != clas) continue;
            if (w.now.get(e).keeper == one && engines.get(e)[1] == other) owed++;
            if (w.now.get(e).keeper == other && engines.get(e)[1] == one) owed--;
        }
        return owed;
    }

    // ---- the choices

    static List<Integer> bits(int set) {
        List<Integer> b = new ArrayList<>();
        for (int i = 0; i < 31; i++) if ((set >> i & 1) != 0) b.add(i);
        return b;
    }

    static int compareLists(List<Integer> a, List<Integer> b) {
        for (int i = 0; i < Math.min(a.size(), b.size()); i++) {
            int c = Integer.compare(a.get(i), b.get(i));
            if (c != 0) return c;
        }
        return Integer.compare(a.size(), b.size());
    }

    int best(int day, int set, int n) {
        if (!dayIs(day) || set < 0 || set >= 1 << turns.size() || Integer.bitCount(set) > 8 || !nIs(n)) return -1;
        World w = new World(n, day, true);
        List<Rule> force = inForce(day);
        List<Integer> asked = bits(set);
        List<Map<Integer, Integer>> prices = new ArrayList<>();
        for (int t : asked) {
            Map<Integer, Integer> p = new HashMap<>();
            for (int e = 0; e < engines.size(); e++) {
                Map<String, Integer> v = w.vars(e, day, turns.get(t));
                Now now = w.now.get(e);
                if (now.how.equals("sound") && now.at == turns.get(t).from && first(force, "bar", v) < 0) p.put(e, amount(force, "price", v, 9999));
            }
            prices.add(p);
        }
        given = new HashMap<>();
        lack = 0;
        bestPrice = Integer.MAX_VALUE;
        bestWho = null;
        assign(prices, new ArrayList<>(), 0);
        if (bestWho != null) {
            for (int i = 0; i < asked.size(); i++) given.put(asked.get(i), bestWho.get(i));
            return bestPrice;
        }
        List<List<Integer>> lacks = new ArrayList<>();
        for (int some = 1; some < 1 << asked.size(); some++) {
            Set<Integer> able = new TreeSet<>();
            for (int i : bits(some)) able.addAll(prices.get(i).keySet());
            if (able.size() < Integer.bitCount(some)) lacks.add(bits(some));
        }
        lacks.sort(Comparator.<List<Integer>>comparingInt(List::size).thenComparing(PlainShed::compareLists));
        for (int i : lacks.get(0)) lack |= 1 << asked.get(i);
        return -2;
    }

    private int bestPrice;
    private List<Integer> bestWho;

    private void assign(List<Map<Integer, Integer>> prices, List<Integer> who, int price) {
        if (who.size() == prices.size()) {
            if (price < bestPrice) { bestPrice = price; bestWho = new ArrayList<>(who); }
            return;
        }
        Map<Integer, Integer> p = prices.get(who.size());
        for (int e : new TreeSet<>(p.keySet())) {
            if (who.contains(e)) continue;
            who.add(e);
            assign(prices, who, price + p.get(e));
            who.remove(who.size() - 1);
        }
    }

    int given(int turn) { return turn >= 0 && turn < turns.size() ? given.getOrDefault(turn, -1) : -1; }
    int lack() { return lack; }

    int lines(boolean goesOut, int engine) {
        List<Integer> row = goesOut ? out : in;
        if (!engineIs(engine) || row.size() == 7 || row.contains(engine)) return -1;
        row.add(engine);
        return row.size();
    }

    void clear() { in.clear(); out.clear(); }

    int roads(int many) {
        if (many < 1 || many > 3 || in.isEmpty() || in.size() != out.size() || !out.containsAll(in)) return -1;
        int fewest = Integer.MAX_VALUE;
        int total = (int) Math.round(Math.pow(many, in.size()));
        for (int code = 0; code < total; code++) {
            int[] r = new int[in.size()];
            for (int i = in.size() - 1, c = code; i >= 0; i--, c /= many) r[i] = c % many;
            int blocked = 0;
            for (int i = 0; i < r.length; i++) {
                boolean inWay = false;
                for (int j = 0; j < i; j++) inWay |= r[j] == r[i] && out.indexOf(in.get(j)) < out.indexOf(in.get(i));
                if (inWay) blocked++;
            }
            if (blocked < fewest) {
                fewest = blocked;
                road = new HashMap<>();
                for (int i = 0; i < r.length; i++) road.put(in.get(i), r[i]);
            }
        }
        return fewest;
    }

    int road(int engine) { return road.getOrDefault(engine, -1); }

    boolean may(int clas, int turn, boolean is) {
        if (clas < 0 || clas > 5 || turn < 0 || turn >= turns.size()) return false;
        if (is) mayNot.remove(List.of(clas, turn));
        else mayNot.add(List.of(clas, turn));
        return true;
    }

    int months(int set, int w, int p, int turnSet, int f) {
        if (set < 1 || set >= 1 << engines.size() || Integer.bitCount(set) > 5 || w < 1 || w > 5 || p < 1 || p > 5
            || turnSet < 0 || turnSet >= 1 << turns.size() || Integer.bitCount(turnSet) > 8 || f < 0 || f > 1) return -1;
        List<Integer> who = bits(set);
        int total = (int) Math.round(Math.pow(w, who.size()));
        Map<Integer, Boolean> memo = new HashMap<>();
        for (int code = 0; code < total; code++) {
            int[] m = new int[who.size()];
            for (int i = who.size() - 1, c = code; i >= 0; i--, c /= w) m[i] = c % w;
            boolean fine = true;
            for (int k = 0; k < w && fine; k++) {
                int away = 0;
                for (int i = 0; i < m.length; i++) if (m[i] == k) away |= 1 << who.get(i);
                int here = (1 << engines.size()) - 1 & ~away;
                fine = Integer.bitCount(away) <= p && memo.computeIfAbsent(here, h -> standsFails(h, bits(turnSet), f));
            }
            if (fine) {
                month = new HashMap<>();
                for (int i = 0; i < m.length; i++) month.put(who.get(i), m[i]);
                return 0;
            }
        }
        return -2;
    }

    boolean standsFails(int here, List<Integer> asked, int f) {
        if (f == 0 || here == 0) return worked(here, asked, 0);
        for (int e : bits(here)) if (!worked(here & ~(1 << e), asked, 0)) return false;
        return true;
    }

    boolean worked(int here, List<Integer> asked, int i) {
        if (i == asked.size()) return true;
        for (int e : bits(here)) {
            if (!mayNot.contains(List.of(engines.get(e)[0], asked.get(i))) && worked(here & ~(1 << e), asked, i + 1)) return true;
        }
        return false;
    }

    int month(int engine) { return month.getOrDefault(engine, -1); }

    /** The sets of the fewest causes, null if three are too few. */
    List<List<Integer>> causeSets(int n) {
        World w = all(n);
        List<Set<Integer>> own = new ArrayList<>();
        for (int f : w.seen.keySet()) {
            Seen s = w.seen.get(f);
            if (!s.failed) continue;
            Set<Integer> c = new TreeSet<>(List.of(engines.get(facts.get(f).engine)[0], 8 + s.stood));
            if (s.man >= 0) c.add(16 + s.man);
            own.add(c);
        }
        if (own.isEmpty()) return List.of();
        for (int size = 1; size <= 3; size++) {
            List<List<Integer>> sets = new ArrayList<>();
            for (int a = 0; a < 24; a++) for (int b = a; b < 24; b++) for (int c = b; c < 24; c++) {
                TreeSet<Integer> set = new TreeSet<>(List.of(a));
                set.add(b);
                set.add(c);
                List<Integer> list = new ArrayList<>(set);
                if (set.size() == size && !sets.contains(list) && own.stream().allMatch(o -> o.stream().anyMatch(set::contains))) sets.add(list);
            }
            sets.sort(PlainShed::compareLists);
            if (!sets.isEmpty()) return sets;
        }
        return null;
    }

    int causes(int n) {
        if (!nIs(n)) return -1;
        List<List<Integer>> sets = causeSets(n);
        return sets == null ? -2 : sets.size();
    }

    int cause(int n, int i) {
        if (!nIs(n)) return -1;
        List<List<Integer>> sets = causeSets(n);
        if (sets == null || i < 0 || i >= sets.size()) return -1;
        int b = 0;
        for (int c : sets.get(i)) b |= 1 << c;
        return b;
    }

    int turned(int n, int m) {
        if (!nIs(n) || !nIs(m)) return -1;
        World one = all(n);
        World two = all(m);
        for (int f = 0; f < Math.min(n, m); f++) {
            if (facts.get(f).kind.equals("RUN") && (one.seen.get(f).reason == 0) != (two.seen.get(f).reason == 0)) return f;
        }
        return -1;
    }

    int count(int what) {
        int[] all = {sheds, engines.size(), men.size(), turns.size(), facts.size(), texts.size(), tape.size()};
        return what < 0 || what > 6 ? -1 : all[what];
    }
}
