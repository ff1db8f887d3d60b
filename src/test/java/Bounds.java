import java.io.IOException;
import java.nio.file.Files;
import java.nio.file.Path;
import java.util.LinkedHashMap;
import java.util.Map;

/**
 * What the tests of the boundary cases share. Each check stands under a promise and the words of the document that it
 * holds (holds(..)); words that do not stand in the document are a fault of the test.
 */
final class Bounds {
    static final int NONE = -1;
    static final int OUTSIDE = -1000000;
    static final int MIN = Integer.MIN_VALUE;
    static final int MAX = Integer.MAX_VALUE;

    interface Call {
        int on(EngineShed x);
    }

    interface Maker {
        EngineShed make();
    }

    private static final String DOC = document();
    private static int promise;
    private static String sentence = "";
    private static int sentences;
    private static int checks;
    private static int wrong;

    private Bounds() { }

    private static String document() {
        Path file = Path.of("../shared/DOC.md");
        try {
            return Files.exists(file) ? spaced(Files.readString(file)) : null;
        } catch (IOException e) {
            return null;
        }
    }

    private static String spaced(String s) {
        return s.replaceAll("\\s+", " ");
    }

    /** The checks that follow hold these words of the document, as the calls of this promise answer them. */
    static void holds(int number, String words) {
        promise = number;
        sentence = words;
        sentences++;
        boolean known = number >= 1 && number <= 42 && (DOC == null || DOC.contains(spaced(words)));
        if (!known) {
            wrong++;
            System.out.println("promise " + number + ": the document does not say: " + words);
        }
    }

    static void due(String call, int got, int want) {
        checks++;
        if (got != want) {
            wrong++;
            System.out.println("promise " + promise + " (" + sentence + "): " + call + " answered " + got + ", due is " + want);
        }
    }

    static void due(String call, boolean got, boolean want) {
        due(call, got ? 1 : 0, want ? 1 : 0);
    }

    static void finish() {
        System.out.println(sentences + " sentences, " + checks + " checks, " + wrong + " wrong"
            + (DOC == null ? "; ../shared/DOC.md is not there: what they quote was not looked up" : ""));
        if (wrong != 0) System.exit(1);
    }

    /** A call that is refused: its answer, and that all calls behind it answer as on a board that never had it. */
    static void refused(Maker maker, String call, int want, Call c) {
        EngineShed without = maker.make();
        EngineShed with = maker.make();
        due(call, c.on(with), want);
        due(call + ", once more", c.on(with), want);
        same("behind " + call, with, without);
    }

    /** That two boards answer the same to all that can be asked. */
    static void same(String when, EngineShed with, EngineShed without) {
        Map<String, Integer> one = askAll(with);
        Map<String, Integer> other = askAll(without);
        for (String call : other.keySet()) due(call + " " + when, one.getOrDefault(call, MIN), other.get(call));
        due("how many calls could be asked " + when, one.size(), other.size());
    }

    // ---- the tape

    /** Puts just the bytes of a text behind the tape. */
    static void put(EngineShed x, String s) {
        for (int at = 0; at < s.length(); at += 20) {
            int[] w = new int[5];
            for (int i = 0; i < 20; i++) w[i / 4] = w[i / 4] << 8 | (at + i < s.length() ? s.charAt(at + i) & 255 : 32);
            x.feed(w[0], w[1], w[2], w[3], w[4]);
        }
        int over = (20 - s.length() % 20) % 20;
        if (over > 0) x.back(over);
    }

    static int read(EngineShed x, String s) {
        put(x, s);
        return x.read();
    }

    /** A text on a new board: its fault, and the place of that. */
    static void reads(String s, int fault, int place) {
        EngineShed x = new EngineShed();
        String shown = s.length() > 70 ? s.substring(0, 30) + " .. " + s.substring(s.length() - 30) : s;
        due("read of '" + shown + "'", read(x, s), fault);
        due("place of '" + shown + "'", x.place(), place);
        due("texts behind '" + shown + "'", x.count(5), fault == 0 ? 1 : 0);
        due("bytes behind '" + shown + "'", x.count(6), 0);
    }

    // ---- boards

    static EngineShed empty() {
        return new EngineShed();
    }

    /** So many sheds, with an engine (class 0), a man (all lines) for each. */
    static EngineShed sheds(int many) {
        EngineShed x = new EngineShed();
        for (int i = 0; i < many; i++) {
            x.shed();
            x.engine(0, i);
            x.man(255);
        }
        return x;
    }

    /**
     * A board with something of all: 3 sheds, engines 0 (class 0, home 0), 1 (1, 0), 2 (0, 1), men 0 (all lines),
     * 1 (lines 0 and 1), 2 (all), five turns, 12 facts, two texts, an unread tape, rows, a best, roads, months.
     */
    static EngineShed yard() {
        EngineShed x = new EngineShed();
        for (int i = 0; i < 3; i++) x.shed();
        x.engine(0, 0);
        x.engine(1, 0);
        x.engine(0, 1);
        x.man(255);
        x.man(3);
        x.man(255);
        x.way(0, 2, 3);
        x.turn(0, 1, 6, 10, 100, 50, 0, false);
        x.turn(1, 0, 10, 14, 61, 20, 0, false);
        x.turn(0, 0, 4, 12, 0, 0, 0, true);
        x.turn(1, 2, 1, 3, 40, 99, 7, false);
        x.turn(0, 0, 3, 5, 7, 1, 1, false);
        read(x, "bar b if load == 99 and class == 0; due d if 150 <= miles or 5 < days; wear w far / 10;");
        read(x, "from 2; coal c hours * 2; price p 10 * class + load;");
        x.run(0, 0, 0, 0);
        x.run(0, 1, 0, 0);
        x.mile(0, 77);
        x.run(1, 2, 2, 1);
        x.run(2, 3, 0, 1);
        x.fails(0, 1, 7);
        x.fact(2, 0, 2);
        x.shops(2, 3, 5);
        x.lent(1, 2, 2);
        x.coals(0, 1, 500);
        x.run(0, 0, 1, 3);
        x.fact(0, 0, 4);
        x.lines(false, 0);
        x.lines(false, 2);
        x.lines(true, 2);
        x.lines(true, 0);
        x.roads(2);
        x.may(0, 0, false);
        x.months(5, 2, 1, 2, 0);
        x.best(0, 3, 2);
        put(x, "from 1; wear z 5;");
        return x;
    }

    /** A yard behind which all is full: sheds, engines, men, turns, facts, texts, bytes, rows. */
    static EngineShed fullYard() {
        EngineShed x = yard();
        for (int i = 3; i < 5; i++) x.shed();
        for (int i = 3; i < 9; i++) x.engine(i % 6, i % 5);
        for (int i = 3; i < 8; i++) x.man(255);
        for (int i = 5; i < 12; i++) x.turn(i % 5, 0, i, i + 2, 10 * i, 5 * i, i % 8, i % 3 == 0);
        for (int i = 12; i < 180; i++) x.fact(1, i % 9, i % 120);
        x.back(17);
        for (int i = 2; i < 6; i++) x.read();
        put(x, "  from 1; strike w;");
        for (int e = 3; e < 8; e++) {
            x.lines(false, e);
            x.lines(true, e);
        }
        return x;
    }

    // ---- all that can be asked

    private static void put(Map<String, Integer> told, String call, int got) {
        String label = call;
        for (int again = 2; told.containsKey(label); again++) label = call + " again " + again;
        told.put(label, got);
    }

    /** What a board remembers, what it tells of the days, and what it answers to calls that change it. */
    static Map<String, Integer> askAll(EngineShed x) {
        Map<String, Integer> told = new LinkedHashMap<>();
        int[] count = new int[7];
        for (int what = 0; what < 7; what++) {
            count[what] = x.count(what);
            put(told, "count(" + what + ")", count[what]);
        }
        askMemory(x, told, count);
        askDays(x, told, count);
        askChanges(x, told, count);
        return told;
    }

    private static void askMemory(EngineShed x, Map<String, Integer> told, int[] count) {
        put(told, "place()", x.place());
        put(told, "lack()", x.lack());
        for (int t = 0; t < count[3]; t++) put(told, "given(" + t + ")", x.given(t));
        for (int e = 0; e < count[1]; e++) {
            put(told, "road(" + e + ")", x.road(e));
            put(told, "month(" + e + ")", x.month(e));
        }
        int rules = x.rules(119);
        put(told, "rules(0)", x.rules(0));
        put(told, "rules(119)", rules);
        for (int k = 0; k < rules && k < 5; k++) {
            for (int what = 0; what < 3; what++) put(told, "rule(119, " + k + ", " + what + ")", x.rule(119, k, what));
        }
    }

    private static void askDays(EngineShed x, Map<String, Integer> told, int[] count) {
        int n = count[4];
        int[] days = n > 100 ? new int[] {3} : new int[] {0, 3, 119};
        for (int e = 0; e < Math.min(3, count[1]); e++) {
            for (int day : days) {
                for (int what = 0; what < 7; what++) {
                    put(told, "state(" + e + ", " + day + ", " + n + ", " + what + ")", x.state(e, day, n, what));
                }
            }
            put(told, "due(" + e + ", 3, " + n + ")", x.due(e, 3, n));
        }
        for (int f = 0; f < Math.min(n, 12); f++) {
            int why = x.isVoid(f, n);
            put(told, "isVoid(" + f + ", " + n + ")", why);
            for (int what = 0; what < 5 && why == 0; what++) put(told, "held(" + f + ", " + what + ")", x.held(f, n, what));
            if (why == 4) put(told, "bar(" + f + ", " + n + ")", x.bar(f, n));
            if (why == NONE) put(told, "help(" + f + ", " + n + ")", x.help(f, n));
        }
        for (int s = 0; s < count[0]; s++) {
            put(told, "coal(" + s + ", 119, " + n + ")", x.coal(s, 119, n));
            put(told, "owes(" + s + ", 0, -1, 119, " + n + ")", x.owes(s, 0, NONE, 119, n));
        }
        put(told, "beyond(0, 119, " + n + ")", x.beyond(0, 119, n));
        put(told, "causes(" + n + ")", x.causes(n));
        put(told, "cause(" + n + ", 0)", x.cause(n, 0));
        put(told, "turned(" + n + ", 1)", x.turned(n, 1));
    }

    private static void askChanges(EngineShed x, Map<String, Integer> told, int[] count) {
        put(told, "roads(3)", x.roads(3));
        put(told, "road(0)", x.road(0));
        put(told, "lines(false, 8)", x.lines(false, 8));
        put(told, "lines(false, 1)", x.lines(false, 1));
        put(told, "lines(true, 1)", x.lines(true, 1));
        put(told, "roads(1)", x.roads(1));
        put(told, "months(1, 2, 1, 1, 0)", x.months(1, 2, 1, 1, 0));
        put(told, "months(3, 2, 2, 3, 0)", x.months(3, 2, 2, 3, 0));
        put(told, "month(1)", x.month(1));
        put(told, "best(2, 3, n)", x.best(2, 3, count[4]));
        put(told, "given(0)", x.given(0));
        put(told, "lack()", x.lack());
        put(told, "shed()", x.shed());
        put(told, "engine(0, 0)", x.engine(0, 0));
        put(told, "man(255)", x.man(255));
        put(told, "turn(..)", x.turn(0, 0, 20, 22, 1, 2, 3, false));
        put(told, "run(0, 0, 0, 119)", x.run(0, 0, 0, 119));
        put(told, "isVoid of it", x.isVoid(x.count(4) - 1, x.count(4)));
        // The tape is read as it stands.
        put(told, "read()", x.read());
        put(told, "place()", x.place());
        put(told, "rules(119)", x.rules(119));
        put(told, "rule(119, 0, 0)", x.rule(119, 0, 0));
        put(told, "count(5)", x.count(5));
        put(told, "count(6)", x.count(6));
        put(told, "back(1)", x.back(1));
    }
}
