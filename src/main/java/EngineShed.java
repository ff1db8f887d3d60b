import java.util.Arrays;

/**
 * A board of engines, as told by DOC.md: sheds, turns, men, facts that hold day by day, rules told as texts,
 * and the questions that can be asked of them, as known by the first n facts.
 */
public final class EngineShed {
    public static final int NONE = -1;

    private static final int LACKING = -2;
    private static final int OUTSIDE = -1000000;
    private static final int LAST_DAY = 119;

    private static final int MOST_SHEDS = 5;
    private static final int MOST_ENGINES = 9;
    private static final int MOST_MEN = 8;
    private static final int MOST_TURNS = 12;
    private static final int MOST_FACTS = 180;
    private static final int MOST_TEXTS = 6;
    private static final int MOST_BYTES = 2000;
    private static final int MOST_TOKENS = 400;
    private static final int MOST_RULES = 24;
    private static final int MOST_OPEN = 6;
    private static final int MOST_ASKED = 8;
    private static final int MOST_IN_ROW = 7;
    private static final int CLASSES = 6;
    private static final int LONGEST_WAY = 9;

    private static final int BAR = 0;
    private static final int DUE = 1;
    private static final int WEAR = 2;
    private static final int COAL = 3;
    private static final int PRICE = 4;
    private static final int STRIKE = 5;

    private static final int WASH = 0;
    private static final int LOOK = 1;
    private static final int MENDED = 2;
    private static final int HOME = 3;
    private static final int RUN = 4;
    private static final int MILE = 5;
    private static final int SHOPS = 6;
    private static final int FAILS = 7;
    private static final int LENT = 8;
    private static final int COALS = 9;

    // A code below VARIABLE is an int, one below OPERATOR a variable, the others are operators.
    private static final int VARIABLE = 10000;
    private static final int OPERATOR = 20000;

    private static final int PLUS = 0;
    private static final int MINUS = 1;
    private static final int TIMES = 2;
    private static final int DIVIDED = 3;
    private static final int EQUAL = 4;
    private static final int UNEQUAL = 5;
    private static final int BELOW = 6;
    private static final int AT_MOST = 7;
    private static final int NOT = 8;
    private static final int AND = 9;
    private static final int OR = 10;
    private static final int OPENED = 11;

    private final Book book;
    private final Reader reader;
    private final Board board;
    private final Duties duties;
    private final Stabling stabling;
    private final Calendar calendar;
    private final Blame blame;

    public EngineShed() {
        book = new Book();
        reader = new Reader();
        board = new Board(book);
        duties = new Duties();
        stabling = new Stabling();
        calendar = new Calendar();
        blame = new Blame();
    }

    public int feed(int a, int b, int c, int d, int e) {
        if (reader.length + 20 > MOST_BYTES) {
            return NONE;
        }
        reader.append(a);
        reader.append(b);
        reader.append(c);
        reader.append(d);
        reader.append(e);
        return reader.length;
    }

    public int back(int n) {
        if (n < 0 || n > reader.length) {
            return NONE;
        }
        reader.length -= n;
        return reader.length;
    }

    public int read() {
        if (book.many >= MOST_TEXTS) {
            return LACKING;
        }
        int fault = reader.readTape();
        if (fault == 0) {
            book.add(reader.handOver());
            board.forget();
        }
        return fault;
    }

    public int place() {
        return reader.faultPlace;
    }

    public int shed() {
        if (board.sheds >= MOST_SHEDS) {
            return NONE;
        }
        board.sheds++;
        return board.sheds - 1;
    }

    public boolean way(int a, int b, int h) {
        if (!board.isShed(a) || !board.isShed(b) || a == b || !within(h, 0, LONGEST_WAY)) {
            return false;
        }
        board.ways[a * MOST_SHEDS + b] = h;
        board.ways[b * MOST_SHEDS + a] = h;
        return true;
    }

    public int engine(int clas, int home) {
        if (board.engineCount >= MOST_ENGINES || !isClass(clas) || !board.isShed(home)) {
            return NONE;
        }
        return board.addEngine(new Engine(clas, home));
    }

    public int man(int lines) {
        if (board.men >= MOST_MEN || !within(lines, 0, 255)) {
            return NONE;
        }
        board.knows[board.men] = lines;
        board.men++;
        return board.men - 1;
    }

    public int turn(int from, int to, int a, int b, int miles, int load, int line, boolean spare) {
        boolean hours = within(a, 0, 24) && within(b, 0, 24) && a < b;
        boolean work = within(load, 0, 99) && within(line, 0, 7);
        boolean goal = spare || board.isShed(to) && within(miles, 0, 400);
        if (board.turnCount >= MOST_TURNS || !board.isShed(from) || !hours || !work || !goal) {
            return NONE;
        }
        Turn t = new Turn(from, a, b, load, line);
        t.to = spare ? from : to;
        t.miles = spare ? 0 : miles;
        t.spare = spare ? 1 : 0;
        return board.addTurn(t);
    }

    public int run(int engine, int turn, int man, int day) {
        if (!board.isTurn(turn) || !board.isMan(man) || !board.takesFact(engine, day)) {
            return NONE;
        }
        Fact f = new Fact(RUN, engine, day);
        f.turn = turn;
        f.man = man;
        return board.addFact(f);
    }

    public int mile(int run, int v) {
        if (board.factCount >= MOST_FACTS || board.factOf(run, board.factCount, RUN) == null || !within(v, 0, 9999)) {
            return NONE;
        }
        Fact f = new Fact(MILE, NONE, NONE);
        f.of = run;
        f.value = v;
        return board.addFact(f);
    }

    public int fact(int kind, int engine, int day) {
        if (!within(kind, WASH, HOME) || !board.takesFact(engine, day)) {
            return NONE;
        }
        return board.addFact(new Fact(kind, engine, day));
    }

    public int shops(int engine, int day, int until) {
        return addValued(SHOPS, engine, day, until, LAST_DAY);
    }

    public int fails(int engine, int day, int hour) {
        return addValued(FAILS, engine, day, hour, 23);
    }

    public int lent(int engine, int shed, int day) {
        return addValued(LENT, engine, day, shed, board.sheds - 1);
    }

    public int coals(int shed, int day, int v) {
        if (board.factCount >= MOST_FACTS || !board.isShed(shed) || !isDay(day) || !within(v, 0, 9999)) {
            return NONE;
        }
        Fact f = new Fact(COALS, NONE, day);
        f.shed = shed;
        f.value = v;
        return board.addFact(f);
    }

    public int rules(int day) {
        if (!isDay(day)) {
            return NONE;
        }
        book.openAt(day);
        return book.inForce;
    }

    public int rule(int day, int k, int what) {
        if (!isDay(day)) {
            return NONE;
        }
        book.openAt(day);
        if (!within(k, 0, book.inForce - 1)) {
            return NONE;
        }
        switch (what) {
            case 0:
                return book.sortOf(k);
            case 1:
                return book.forceText[k];
            case 2:
                return book.forceRule[k];
            default:
                return NONE;
        }
    }

    public int state(int engine, int day, int n, int what) {
        if (!board.isEngine(engine) || !isDay(day) || !board.isKnown(n)) {
            return NONE;
        }
        board.settle(n, day, day);
        return board.engines[engine].tell(what, day);
    }

    public int isVoid(int fact, int n) {
        Fact f = board.factOf(fact, n, RUN);
        if (f == null) {
            return NONE;
        }
        board.settle(n, LAST_DAY, LAST_DAY);
        return f.reason;
    }

    public int held(int fact, int n, int what) {
        Fact f = board.factOf(fact, n, RUN);
        if (f == null) {
            return NONE;
        }
        board.settle(n, LAST_DAY, LAST_DAY);
        return f.reason == 0 ? f.tell(what) : NONE;
    }

    public int bar(int fact, int n) {
        Fact f = board.factOf(fact, n, RUN);
        if (f == null) {
            return NONE;
        }
        board.settle(n, LAST_DAY, LAST_DAY);
        return f.reason == 4 ? f.barred : NONE;
    }

    public int due(int engine, int day, int n) {
        if (!board.isEngine(engine) || !isDay(day) || !board.isKnown(n)) {
            return NONE;
        }
        board.settle(n, day - 1, day);
        return board.isDue(board.engines[engine], day) ? 1 : 0;
    }

    public int beyond(int a, int b, int n) {
        if (!isDay(a) || !isDay(b) || b < a || !board.isKnown(n)) {
            return NONE;
        }
        board.settle(n, LAST_DAY, LAST_DAY);
        return board.countBeyond(a, b, n);
    }

    public int help(int fact, int n) {
        Fact f = board.factOf(fact, n, FAILS);
        if (f == null) {
            return NONE;
        }
        board.settle(n, LAST_DAY, LAST_DAY);
        return f.did ? board.helper(f, n) : NONE;
    }

    public int coal(int shed, int day, int n) {
        if (!board.isShed(shed) || !isDay(day) || !board.isKnown(n)) {
            return OUTSIDE;
        }
        board.settle(n, LAST_DAY, LAST_DAY);
        return board.coalLeft(shed, day, n);
    }

    public int owes(int one, int other, int clas, int day, int n) {
        boolean pair = board.isShed(one) && board.isShed(other) && one != other;
        if (!pair || !(isClass(clas) || clas == NONE) || !isDay(day) || !board.isKnown(n)) {
            return OUTSIDE;
        }
        board.settle(n, day, day);
        return board.countKept(one, other, clas) - board.countKept(other, one, clas);
    }

    public int best(int day, int turns, int n) {
        boolean some = board.areTurns(turns) && Integer.bitCount(turns) <= MOST_ASKED;
        if (!isDay(day) || !some || !board.isKnown(n)) {
            return NONE;
        }
        board.settle(n, day - 1, day);
        duties.ask(board, day, turns);
        return duties.solve(board.engineCount);
    }

    public int given(int turn) {
        return board.isTurn(turn) ? duties.chosen[turn] : NONE;
    }

    public int lack() {
        return duties.lacking;
    }

    public int lines(boolean out, int engine) {
        return board.isEngine(engine) ? stabling.join(out, engine) : NONE;
    }

    public void clear() {
        stabling.ins = 0;
        stabling.outs = 0;
    }

    public int roads(int many) {
        return within(many, 1, 3) && stabling.rank() ? stabling.solve(many) : NONE;
    }

    public int road(int engine) {
        return board.isEngine(engine) ? stabling.chosen[engine] : NONE;
    }

    public boolean may(int clas, int turn, boolean is) {
        if (!isClass(clas) || !board.isTurn(turn)) {
            return false;
        }
        int bit = 1 << clas;
        calendar.barred[turn] = is ? calendar.barred[turn] & ~bit : calendar.barred[turn] | bit;
        return true;
    }

    public int months(int engines, int w, int p, int turns, int f) {
        boolean some = board.areEngines(engines) && within(Integer.bitCount(engines), 1, 5);
        boolean asked = board.areTurns(turns) && Integer.bitCount(turns) <= MOST_ASKED;
        if (!some || !asked || !within(w, 1, 5) || !within(p, 1, 5) || !within(f, 0, 1)) {
            return NONE;
        }
        calendar.ask(board, engines, turns);
        return calendar.solve(w, p, f) ? 0 : LACKING;
    }

    public int month(int engine) {
        return board.isEngine(engine) ? calendar.chosen[engine] : NONE;
    }

    public int causes(int n) {
        if (!board.isKnown(n)) {
            return NONE;
        }
        board.settle(n, LAST_DAY, LAST_DAY);
        blame.gather(board, n);
        return blame.search(NONE);
    }

    public int cause(int n, int i) {
        if (!board.isKnown(n) || i < 0) {
            return NONE;
        }
        board.settle(n, LAST_DAY, LAST_DAY);
        blame.gather(board, n);
        blame.search(i);
        return blame.picked;
    }

    public int turned(int n, int m) {
        if (!board.isKnown(n) || !board.isKnown(m)) {
            return NONE;
        }
        int both = Math.min(n, m);
        board.settle(n, LAST_DAY, LAST_DAY);
        board.noteReasons(both);
        board.settle(m, LAST_DAY, LAST_DAY);
        return board.firstTurned(both);
    }

    public int count(int what) {
        switch (what) {
            case 0:
                return board.sheds;
            case 1:
                return board.engineCount;
            case 2:
                return board.men;
            case 3:
                return board.turnCount;
            case 4:
                return board.factCount;
            case 5:
                return book.many;
            case 6:
                return reader.length;
            default:
                return NONE;
        }
    }

    private int addValued(int kind, int engine, int day, int value, int most) {
        if (!board.takesFact(engine, day) || !within(value, 0, most)) {
            return NONE;
        }
        Fact f = new Fact(kind, engine, day);
        f.value = value;
        return board.addFact(f);
    }

    private static boolean within(int x, int least, int most) {
        return least <= x && x <= most;
    }

    private static boolean isDay(int day) {
        return within(day, 0, LAST_DAY);
    }

    private static boolean isClass(int clas) {
        return within(clas, 0, CLASSES - 1);
    }

    /** For each set of turns (bits by their places): the engines that may work one of them at least. */
    private static void uniteSets(int[] able, int many, int[] united) {
        united[0] = 0;
        for (int i = 0; i < many; i++) {
            int bit = 1 << i;
            for (int rest = 0; rest < bit; rest++) {
                united[bit | rest] = united[rest] | able[i];
            }
        }
    }

    /** Whether of two sets the first has the least bit that is not in both. */
    private static boolean isAhead(int one, int other) {
        int apart = one ^ other;
        return (one & apart & -apart) != 0;
    }

    /** The rules of one text: those without a fault are kept by the book. */
    private static final class Text {
        final int[] code = new int[MOST_TOKENS];
        final long[] names = new long[MOST_RULES];
        final int[] sorts = new int[MOST_RULES];
        // The codes of a rule: its value from values[r] on, its condition from conditions[r] to ends[r].
        final int[] values = new int[MOST_RULES];
        final int[] conditions = new int[MOST_RULES];
        final int[] ends = new int[MOST_RULES];
        int codes;
        int rules;
        int from;

        void empty() {
            codes = 0;
            rules = 0;
            from = 0;
        }

        void openRule(int sort) {
            if (rules < MOST_RULES) {
                sorts[rules] = sort;
                values[rules] = codes;
                conditions[rules] = codes;
                ends[rules] = codes;
                rules++;
            }
        }

        void nameRule(long name) {
            if (rules > 0) {
                names[rules - 1] = name;
            }
        }

        void openCondition() {
            if (rules > 0) {
                conditions[rules - 1] = codes;
            }
        }

        void closeRule() {
            if (rules > 0) {
                ends[rules - 1] = codes;
            }
        }

        void emit(int c) {
            if (codes < MOST_TOKENS) {
                code[codes] = c;
                codes++;
            }
        }

        int sortOfLatest() {
            return rules > 0 ? sorts[rules - 1] : NONE;
        }
    }

    /** The tape, and its reading token by token; codes stand behind what they work on. */
    private static final class Reader {
        private static final int SYNTAX = 1;
        private static final int ROOM = 2;
        private static final int WRONG = 5;

        private static final int NO_TOKEN = 0;
        private static final int END = 1;
        private static final int NAME = 2;
        private static final int INT = 3;
        private static final int VAR = 4;
        private static final int OPEN = 5;
        private static final int CLOSE = 6;
        private static final int SEMICOLON = 7;
        private static final int ARITHMETIC = 8;
        private static final int COMPARISON = 9;
        private static final int WORD_NOT = 10;
        private static final int JOIN = 11;
        private static final int WORD_IF = 12;
        private static final int WORD_FROM = 13;
        private static final int RULE_WORD = 14;

        private static final String VARIABLES = "day class miles days looked worn load line hours far lent spare ";
        private static final String RULE_WORDS = "bar due wear coal price strike ";
        private static final String ARITHMETIC_SIGNS = "+-*/";

        // What is awaited.
        private static final int AT_TEXT = 0;
        private static final int AT_DAY = 1;
        private static final int AT_SEMICOLON = 2;
        private static final int AT_RULE = 3;
        private static final int AT_NAME = 4;
        private static final int AT_IF = 5;
        private static final int AT_LITERAL = 6;
        private static final int AT_UNIT = 7;
        private static final int BEHIND_UNIT = 8;

        private static final int AMOUNT = 0;
        private static final int LEFT = 1;
        private static final int RIGHT = 2;

        // By operators, PLUS to OPENED: the higher binds the closer.
        private static final int[] RANKS = {5, 5, 6, 6, 4, 4, 4, 4, 3, 2, 1, 0};

        final byte[] tape = new byte[MOST_BYTES];
        int length;
        int faultPlace = NONE;
        private Text draft = new Text();
        private final int[] waiting = new int[MOST_TOKENS];
        private int waits;
        private int at;
        private int start;
        private int kind;
        private int value;
        private long name;
        private int tokens;
        private int awaited;
        private int part;
        private int depth;
        private int dayPlace;

        void append(int four) {
            for (int shift = 24; shift >= 0; shift -= 8) {
                if (length < MOST_BYTES) {
                    tape[length] = (byte) (four >> shift);
                    length++;
                }
            }
        }

        /** 0, or the number of the fault; the tape is empty then. */
        int readTape() {
            begin();
            int fault = 0;
            for (int i = 0; i <= length && fault == 0 && kind != END; i++) {
                nextToken();
                fault = judge();
                if (fault == 0) {
                    take();
                }
            }
            if (fault == 0 && draft.from > LAST_DAY) {
                fault = WRONG;
                start = dayPlace;
            }
            faultPlace = fault == 0 ? NONE : start;
            length = 0;
            return fault;
        }

        /** The text that was read; another one takes its place here, as the book keeps it. */
        Text handOver() {
            Text done = draft;
            draft = new Text();
            return done;
        }

        private void begin() {
            draft.empty();
            waits = 0;
            at = 0;
            kind = NO_TOKEN;
            tokens = 0;
            awaited = AT_TEXT;
            depth = 0;
        }

        private int byteAt(int i) {
            return i >= 0 && i < length ? tape[i] & 255 : 0;
        }

        private boolean isBlankAt(int i) {
            int c = byteAt(i);
            return c == 9 || c == 10 || c == 13 || c == 32;
        }

        private boolean isLetterAt(int i) {
            return within(byteAt(i), 'a', 'z');
        }

        private boolean isDigitAt(int i) {
            return within(byteAt(i), '0', '9');
        }

        private void nextToken() {
            while (at < length && isBlankAt(at)) {
                at++;
            }
            start = at;
            value = 0;
            if (at >= length) {
                kind = END;
            } else if (isLetterAt(at)) {
                scanWord();
            } else if (isDigitAt(at)) {
                scanInt();
            } else {
                scanSign();
            }
        }

        private void scanWord() {
            name = 0;
            while (at < length && isLetterAt(at)) {
                name = name * 32 + (byteAt(at) - 'a' + 1);
                at++;
            }
            if (at - start > 8) {
                kind = NO_TOKEN;
                return;
            }
            value = indexIn(VARIABLES);
            if (value >= 0) {
                kind = VAR;
                return;
            }
            value = indexIn(RULE_WORDS);
            kind = value >= 0 ? RULE_WORD : kindOfLink();
        }

        private int kindOfLink() {
            switch (indexIn("from if not and or ")) {
                case 0:
                    return WORD_FROM;
                case 1:
                    return WORD_IF;
                case 2:
                    return WORD_NOT;
                case 3:
                    value = AND;
                    return JOIN;
                case 4:
                    value = OR;
                    return JOIN;
                default:
                    return NAME;
            }
        }

        /** Which of the words of a list, each with a blank behind it, the scanned one is. */
        private int indexIn(String list) {
            int index = 0;
            int same = 0;
            boolean fits = true;
            for (int i = 0; i < list.length(); i++) {
                char c = list.charAt(i);
                if (c == ' ') {
                    if (fits && same == at - start) {
                        return index;
                    }
                    index++;
                    same = 0;
                    fits = true;
                } else {
                    fits = fits && same < at - start && byteAt(start + same) == c;
                    same++;
                }
            }
            return NONE;
        }

        private void scanInt() {
            while (at < length && isDigitAt(at)) {
                // A fifth digit makes it no token, so that the value can't outgrow an int.
                value = at - start < 4 ? value * 10 + (byteAt(at) - '0') : 0;
                at++;
            }
            kind = at - start > 4 ? NO_TOKEN : INT;
        }

        private void scanSign() {
            char c = (char) byteAt(at);
            boolean equals = byteAt(at + 1) == '=';
            at++;
            kind = NO_TOKEN;
            value = ARITHMETIC_SIGNS.indexOf(c);
            if (value >= 0) {
                kind = ARITHMETIC;
            } else if (c == ';') {
                kind = SEMICOLON;
            } else if (c == '(') {
                kind = OPEN;
            } else if (c == ')') {
                kind = CLOSE;
            } else if (c == '<' || equals && (c == '=' || c == '!')) {
                kind = COMPARISON;
                value = c == '=' ? EQUAL : c == '!' ? UNEQUAL : equals ? AT_MOST : BELOW;
                at += equals ? 1 : 0;
            }
        }

        private int judge() {
            if (!goesOn()) {
                return SYNTAX;
            }
            boolean full = kind != END && tokens >= MOST_TOKENS
                || kind == RULE_WORD && draft.rules >= MOST_RULES
                || kind == OPEN && depth >= MOST_OPEN;
            return full ? ROOM : 0;
        }

        private boolean goesOn() {
            boolean unit = kind == INT || kind == VAR || kind == OPEN;
            switch (awaited) {
                case AT_TEXT:
                    return kind == WORD_FROM || kind == RULE_WORD || kind == END;
                case AT_DAY:
                    return kind == INT;
                case AT_SEMICOLON:
                    return kind == SEMICOLON;
                case AT_RULE:
                    return kind == RULE_WORD || kind == END;
                case AT_NAME:
                    return kind == NAME;
                case AT_IF:
                    return kind == WORD_IF;
                case AT_LITERAL:
                    return kind == WORD_NOT || unit;
                case AT_UNIT:
                    return unit;
                default:
                    return goesOnBehindUnit();
            }
        }

        private boolean goesOnBehindUnit() {
            if (kind == ARITHMETIC) {
                return true;
            }
            if (depth > 0) {
                return kind == CLOSE;
            }
            if (part == AMOUNT) {
                return kind == WORD_IF || kind == SEMICOLON;
            }
            return part == LEFT ? kind == COMPARISON : kind == JOIN || kind == SEMICOLON;
        }

        private void take() {
            tokens++;
            switch (awaited) {
                case AT_DAY:
                    draft.from = value;
                    dayPlace = start;
                    awaited = AT_SEMICOLON;
                    break;
                case AT_SEMICOLON:
                    awaited = AT_RULE;
                    break;
                case AT_NAME:
                    takeName();
                    break;
                case AT_IF:
                    awaitLiteral();
                    break;
                case AT_LITERAL:
                case AT_UNIT:
                    takeUnit();
                    break;
                case BEHIND_UNIT:
                    takeBehindUnit();
                    break;
                default:
                    takeFirst();
                    break;
            }
        }

        private void takeFirst() {
            if (kind == WORD_FROM) {
                awaited = AT_DAY;
            } else if (kind == RULE_WORD) {
                draft.openRule(value);
                awaited = AT_NAME;
            }
        }

        private void takeName() {
            draft.nameRule(name);
            int sort = draft.sortOfLatest();
            if (sort == STRIKE) {
                awaited = AT_SEMICOLON;
            } else if (sort == BAR || sort == DUE) {
                awaited = AT_IF;
            } else {
                part = AMOUNT;
                awaited = AT_UNIT;
            }
        }

        private void awaitLiteral() {
            part = LEFT;
            awaited = AT_LITERAL;
        }

        private void takeUnit() {
            if (kind == WORD_NOT) {
                keepWaiting(NOT);
            } else if (kind == OPEN) {
                keepWaiting(OPENED);
                depth++;
                awaited = AT_UNIT;
            } else {
                draft.emit(kind == VAR ? VARIABLE + value : value);
                awaited = BEHIND_UNIT;
            }
        }

        private void takeBehindUnit() {
            switch (kind) {
                case CLOSE:
                    emitDownTo(RANKS[OPENED] + 1);
                    waits -= waits > 0 ? 1 : 0;
                    depth--;
                    break;
                case ARITHMETIC:
                    takeOperator();
                    awaited = AT_UNIT;
                    break;
                case COMPARISON:
                    takeOperator();
                    part = RIGHT;
                    awaited = AT_UNIT;
                    break;
                case JOIN:
                    takeOperator();
                    awaitLiteral();
                    break;
                case WORD_IF:
                    emitDownTo(RANKS[OPENED]);
                    draft.openCondition();
                    awaitLiteral();
                    break;
                default:
                    takeRuleEnd();
                    break;
            }
        }

        private void takeRuleEnd() {
            emitDownTo(RANKS[OPENED]);
            if (part == AMOUNT) {
                draft.openCondition();
            }
            draft.closeRule();
            awaited = AT_RULE;
        }

        private void takeOperator() {
            emitDownTo(RANKS[value]);
            keepWaiting(value);
        }

        private void keepWaiting(int operator) {
            if (waits < MOST_TOKENS) {
                waiting[waits] = operator;
                waits++;
            }
        }

        private void emitDownTo(int rank) {
            while (waits > 0 && RANKS[waiting[waits - 1]] >= rank) {
                waits--;
                draft.emit(OPERATOR + waiting[waits]);
            }
        }
    }

    /** The texts, the rules in force on the day at which it is open, and what they come to. */
    private static final class Book {
        static final int VAR_DAY = 0;
        static final int VAR_CLASS = 1;
        static final int VAR_MILES = 2;
        static final int VAR_DAYS = 3;
        static final int VAR_LOOKED = 4;
        static final int VAR_WORN = 5;
        static final int VAR_LOAD = 6;
        static final int VAR_LINE = 7;
        static final int VAR_HOURS = 8;
        static final int VAR_FAR = 9;
        static final int VAR_LENT = 10;
        static final int VAR_SPARE = 11;

        // Two operands for each open bracket and a few beneath them are all that ever wait.
        private static final int DEEPEST = 64;

        final int[] forceText = new int[MOST_TEXTS * MOST_RULES];
        final int[] forceRule = new int[MOST_TEXTS * MOST_RULES];
        int inForce;
        int many;
        private final Text[] texts = new Text[MOST_TEXTS];
        // The texts' numbers by their from days.
        private final int[] queue = new int[MOST_TEXTS];
        private int laid;
        private final int[] vars = new int[12];
        private final int[] stack = new int[DEEPEST];
        private int top;
        private boolean broken;

        void add(Text t) {
            if (many >= MOST_TEXTS) {
                return;
            }
            int spot = many;
            while (spot > 0 && texts[queue[spot - 1]].from > t.from) {
                queue[spot] = queue[spot - 1];
                spot--;
            }
            queue[spot] = many;
            texts[many] = t;
            many++;
            laid = NONE;
        }

        /** Lays out the rules in force on a day, unless those of the same texts lie there. */
        void openAt(int day) {
            int holding = 0;
            while (holding < many && texts[queue[holding]].from <= day) {
                holding++;
            }
            if (holding == laid) {
                return;
            }
            inForce = 0;
            for (int i = 0; i < holding; i++) {
                layText(queue[i]);
            }
            laid = holding;
        }

        private void layText(int number) {
            Text t = texts[number];
            for (int r = 0; r < t.rules; r++) {
                int k = find(t.names[r]);
                if (t.sorts[r] == STRIKE) {
                    strikeAt(k);
                } else if (k < forceText.length) {
                    forceText[k] = number;
                    forceRule[k] = r;
                    inForce = Math.max(inForce, k + 1);
                }
            }
        }

        /** Where the rule of a name is in force; behind them all, if none is. */
        private int find(long name) {
            for (int k = 0; k < inForce; k++) {
                if (texts[forceText[k]].names[forceRule[k]] == name) {
                    return k;
                }
            }
            return inForce;
        }

        private void strikeAt(int k) {
            if (k >= inForce) {
                return;
            }
            inForce--;
            for (int i = k; i < inForce; i++) {
                forceText[i] = forceText[i + 1];
                forceRule[i] = forceRule[i + 1];
            }
        }

        int sortOf(int k) {
            return texts[forceText[k]].sorts[forceRule[k]];
        }

        /** What the rules' variables are from now on; without a turn its own are 0. */
        void lookAt(Engine e, int day, Turn t) {
            vars[VAR_DAY] = day;
            vars[VAR_CLASS] = e.clas;
            vars[VAR_MILES] = e.miles;
            vars[VAR_DAYS] = day - e.washed;
            vars[VAR_LOOKED] = day - e.looked;
            vars[VAR_WORN] = e.worn;
            vars[VAR_LENT] = e.keeper == e.home ? 0 : 1;
            vars[VAR_LOAD] = t == null ? 0 : t.load;
            vars[VAR_LINE] = t == null ? 0 : t.line;
            vars[VAR_HOURS] = t == null ? 0 : t.b - t.a;
            vars[VAR_FAR] = t == null ? 0 : t.miles;
            vars[VAR_SPARE] = t == null ? 0 : t.spare;
        }

        /** The first rule in force of a sort that holds for what is looked at, or NONE. */
        int firstHolding(int sort) {
            for (int k = 0; k < inForce; k++) {
                Text t = texts[forceText[k]];
                int r = forceRule[k];
                if (t.sorts[r] == sort && (t.conditions[r] >= t.ends[r] || work(t, t.conditions[r], t.ends[r]) != 0)) {
                    return k;
                }
            }
            return NONE;
        }

        /** The value of a rule in force, held to 0 .. most; 0 without one. */
        int amount(int k, int most) {
            if (!within(k, 0, inForce - 1)) {
                return 0;
            }
            Text t = texts[forceText[k]];
            int r = forceRule[k];
            int got = work(t, t.values[r], t.conditions[r]);
            return broken ? 0 : Math.max(0, Math.min(most, got));
        }

        private int work(Text t, int from, int to) {
            top = 0;
            broken = false;
            for (int i = from; i < to; i++) {
                int c = t.code[i];
                if (c < OPERATOR) {
                    push(c < VARIABLE ? c : vars[c - VARIABLE]);
                } else {
                    apply(c - OPERATOR);
                }
            }
            return top > 0 ? stack[top - 1] : 0;
        }

        private void push(int x) {
            if (top < DEEPEST) {
                stack[top] = x;
                top++;
            }
        }

        private void apply(int operator) {
            if (operator == NOT && top > 0) {
                stack[top - 1] = 1 - stack[top - 1];
            } else if (top > 1) {
                top--;
                int x = stack[top - 1];
                int y = stack[top];
                boolean compares = within(operator, EQUAL, AT_MOST);
                stack[top - 1] = compares ? compareBoth(operator, x, y) : combine(operator, x, y);
            }
        }

        private int combine(int operator, int x, int y) {
            switch (operator) {
                case PLUS:
                    return x + y;
                case MINUS:
                    return x - y;
                case TIMES:
                    return x * y;
                case DIVIDED:
                    broken = broken || y == 0;
                    return y == 0 ? 0 : x / y;
                case AND:
                    return x & y;
                default:
                    return x | y;
            }
        }

        /** A comparison is the end of a LIT, so a division by 0 in it breaks it and no other. */
        private int compareBoth(int operator, int x, int y) {
            boolean holds;
            switch (operator) {
                case EQUAL:
                    holds = x == y;
                    break;
                case UNEQUAL:
                    holds = x != y;
                    break;
                case BELOW:
                    holds = x < y;
                    break;
                default:
                    holds = x <= y;
                    break;
            }
            holds = holds && !broken;
            broken = false;
            return holds ? 1 : 0;
        }
    }

    /** An engine, and how it is where the board's settling has come to. */
    private static final class Engine {
        final int clas;
        final int home;
        int at;
        int keeper;
        boolean failed;
        // The day on which it leaves the shops; NONE while it is not there.
        int until;
        int miles;
        int worn;
        int washed;
        int looked;
        // What follows is of this day alone.
        int day;
        boolean scrubbed;
        boolean wasDue;
        int ranTo;
        Fact latest;

        Engine(int clas, int home) {
            this.clas = clas;
            this.home = home;
        }

        void startAnew() {
            at = home;
            keeper = home;
            failed = false;
            until = NONE;
            miles = 0;
            worn = 0;
            washed = 0;
            looked = 0;
            day = NONE;
        }

        /** The morning of a day: the shops let go whom they promised to. */
        void startDay(int today) {
            if (day == today) {
                return;
            }
            day = today;
            scrubbed = false;
            ranTo = 0;
            latest = null;
            if (until != NONE && until <= today) {
                at = home;
                miles = 0;
                worn = 0;
                washed = until;
                looked = until;
                until = NONE;
            }
        }

        boolean isInShops() {
            return until != NONE;
        }

        boolean isSound() {
            return !failed && !isInShops();
        }

        void wash() {
            if (isSound() && latest == null) {
                miles = 0;
                washed = day;
                scrubbed = true;
            }
        }

        void look() {
            if (isSound()) {
                looked = day;
            }
        }

        void enterShops(int until) {
            if (isSound() && latest == null && until > day) {
                this.until = until;
            }
        }

        void lendTo(int shed) {
            if (isSound() && shed != keeper) {
                keeper = shed;
                at = shed;
            }
        }

        int tell(int what, int today) {
            switch (what) {
                case 0:
                    return isInShops() ? NONE : at;
                case 1:
                    return isInShops() ? 1 : failed ? 2 : 0;
                case 2:
                    return miles;
                case 3:
                    return worn;
                case 4:
                    return today - washed;
                case 5:
                    return today - looked;
                case 6:
                    return keeper;
                default:
                    return NONE;
            }
        }
    }

    private static final class Turn {
        final int from;
        final int a;
        final int b;
        final int load;
        final int line;
        int to;
        int miles;
        int spare;

        Turn(int from, int a, int b, int load, int line) {
            this.from = from;
            this.a = a;
            this.b = b;
            this.load = load;
            this.line = line;
        }

        /** Its hours a .. b - 1 as bits. */
        int hourBits() {
            return (1 << b) - (1 << a);
        }
    }

    /** A fact, and what the board's settling made of it. */
    private static final class Fact {
        final int kind;
        final int engine;
        final int day;
        int turn = NONE;
        // Of a run its man; of a fails the man of the engine's last run of the day.
        int man = NONE;
        // Of coals their shed; of a fails where the engine stood then.
        int shed = NONE;
        // The hour, day, shed to which, miles or tons that are told.
        int value;
        // Of a mile the number of its run.
        int of = NONE;
        int told;
        int reason;
        int barred;
        int miles;
        int wear;
        int coal;
        int ahead;
        boolean beyond;
        boolean halved;
        boolean did;

        Fact(int kind, int engine, int day) {
            this.kind = kind;
            this.engine = engine;
            this.day = day;
        }

        int tell(int what) {
            switch (what) {
                case 0:
                    return miles;
                case 1:
                    return wear;
                case 2:
                    return coal;
                case 3:
                    return beyond ? 1 : 0;
                case 4:
                    return ahead;
                default:
                    return NONE;
            }
        }
    }

    /** What is told of sheds, engines, men, turns and facts, and the settling of the facts day by day. */
    private static final class Board {
        int sheds;
        final int[] ways = new int[MOST_SHEDS * MOST_SHEDS];
        final Engine[] engines = new Engine[MOST_ENGINES];
        int engineCount;
        final int[] knows = new int[MOST_MEN];
        int men;
        final Turn[] turns = new Turn[MOST_TURNS];
        int turnCount;
        final Fact[] facts = new Fact[MOST_FACTS];
        int factCount;
        private final Book book;
        // The numbers of the facts that have a day, by days and then by numbers.
        private final int[] order = new int[MOST_FACTS];
        private int ordered;
        private final int[] noted = new int[MOST_FACTS];
        // Of the day that is being settled: the hours of each man and the turns that have run, as bits.
        private final int[] hours = new int[MOST_MEN];
        private int ranTurns;
        private int today;
        private int settledBy = NONE;
        private int settledThrough;
        private int settledDawn;

        Board(Book book) {
            this.book = book;
            for (int a = 0; a < MOST_SHEDS; a++) {
                for (int b = 0; b < MOST_SHEDS; b++) {
                    ways[a * MOST_SHEDS + b] = a == b ? 0 : 1;
                }
            }
        }

        boolean isShed(int shed) {
            return within(shed, 0, sheds - 1);
        }

        boolean isEngine(int engine) {
            return within(engine, 0, engineCount - 1);
        }

        boolean areEngines(int bits) {
            return within(bits, 0, (1 << engineCount) - 1);
        }

        boolean isMan(int man) {
            return within(man, 0, men - 1);
        }

        boolean isTurn(int turn) {
            return within(turn, 0, turnCount - 1);
        }

        boolean areTurns(int bits) {
            return within(bits, 0, (1 << turnCount) - 1);
        }

        boolean isKnown(int n) {
            return within(n, 0, factCount);
        }

        boolean takesFact(int engine, int day) {
            return factCount < MOST_FACTS && isEngine(engine) && isDay(day);
        }

        int addEngine(Engine e) {
            engines[engineCount] = e;
            engineCount++;
            forget();
            return engineCount - 1;
        }

        int addTurn(Turn t) {
            turns[turnCount] = t;
            turnCount++;
            return turnCount - 1;
        }

        int addFact(Fact f) {
            if (factCount >= MOST_FACTS) {
                return NONE;
            }
            if (f.kind != MILE) {
                int spot = ordered;
                while (spot > 0 && facts[order[spot - 1]].day > f.day) {
                    order[spot] = order[spot - 1];
                    spot--;
                }
                order[spot] = factCount;
                ordered++;
            }
            facts[factCount] = f;
            factCount++;
            return factCount - 1;
        }

        /** What was settled holds no more. */
        void forget() {
            settledBy = NONE;
        }

        /** The fact of a number if it is among the first n and of a kind, else null. */
        Fact factOf(int number, int n, int kind) {
            boolean there = isKnown(n) && within(number, 0, n - 1);
            return there && facts[number].kind == kind ? facts[number] : null;
        }

        /** Settles the facts known by n through a day; the engines then see the dawn of this or the next one. */
        void settle(int n, int through, int dawn) {
            if (n == settledBy && through == settledThrough && dawn == settledDawn) {
                return;
            }
            startAnew(n);
            for (int i = 0; i < ordered; i++) {
                Fact f = facts[order[i]];
                if (f.day > through) {
                    break;
                }
                if (order[i] < n) {
                    openDay(f);
                    step(f);
                }
            }
            for (int e = 0; e < engineCount; e++) {
                engines[e].startDay(dawn);
            }
            settledBy = n;
            settledThrough = through;
            settledDawn = dawn;
        }

        private void startAnew(int n) {
            today = NONE;
            for (int e = 0; e < engineCount; e++) {
                engines[e].startAnew();
            }
            for (int i = 0; i < n; i++) {
                Fact f = facts[i];
                if (f.kind == RUN) {
                    f.told = turns[f.turn].miles;
                } else if (f.kind == MILE) {
                    facts[f.of].told = f.value;
                }
            }
        }

        /** Begins the day of a fact, and that of its engine, unless they have begun. */
        private void openDay(Fact f) {
            if (f.day != today) {
                today = f.day;
                book.openAt(today);
                ranTurns = 0;
                Arrays.fill(hours, 0);
            }
            if (isEngine(f.engine) && engines[f.engine].day != today) {
                engines[f.engine].startDay(today);
                engines[f.engine].wasDue = isDue(engines[f.engine], today);
            }
        }

        private void step(Fact f) {
            if (!isEngine(f.engine)) {
                return;
            }
            Engine e = engines[f.engine];
            switch (f.kind) {
                case WASH:
                    e.wash();
                    break;
                case LOOK:
                    e.look();
                    break;
                case MENDED:
                    e.failed = false;
                    break;
                case HOME:
                    e.lendTo(e.home);
                    break;
                case RUN:
                    stepRun(f, e);
                    break;
                case SHOPS:
                    e.enterShops(f.value);
                    break;
                case FAILS:
                    stepFails(f, e);
                    break;
                case LENT:
                    e.lendTo(f.value);
                    break;
                default:
                    break;
            }
        }

        private void stepRun(Fact f, Engine e) {
            Turn t = turns[f.turn];
            book.lookAt(e, today, t);
            f.reason = whyNotEngine(e, t);
            if (f.reason == 0) {
                f.barred = book.firstHolding(BAR);
                f.reason = f.barred == NONE ? whyNotMan(f, t) : 4;
            }
            if (f.reason != 0) {
                return;
            }
            f.wear = book.amount(book.firstHolding(WEAR), 999);
            f.coal = book.amount(book.firstHolding(COAL), 999);
            f.miles = f.told;
            f.ahead = e.miles;
            f.beyond = e.wasDue;
            f.halved = false;
            e.miles += f.miles;
            e.worn += f.wear;
            e.at = t.to;
            e.ranTo = t.b;
            e.latest = f;
            hours[f.man] |= t.hourBits();
            ranTurns |= 1 << f.turn;
        }

        private static int whyNotEngine(Engine e, Turn t) {
            if (!e.isSound() || e.scrubbed) {
                return 1;
            }
            if (e.at != t.from) {
                return 2;
            }
            return e.ranTo > t.a ? 3 : 0;
        }

        private int whyNotMan(Fact f, Turn t) {
            int worked = hours[f.man];
            if ((worked & t.hourBits()) != 0 || Integer.bitCount(worked) + t.b - t.a > 10) {
                return 5;
            }
            if ((knows[f.man] >> t.line & 1) == 0) {
                return 6;
            }
            return (ranTurns >> f.turn & 1) != 0 ? 7 : 0;
        }

        private void stepFails(Fact f, Engine e) {
            f.did = e.isSound();
            if (!f.did) {
                return;
            }
            e.failed = true;
            Fact latest = e.latest;
            if (latest != null) {
                if (!latest.halved) {
                    int half = latest.miles / 2;
                    e.miles -= latest.miles - half;
                    latest.miles = half;
                    latest.halved = true;
                }
                e.at = turns[latest.turn].from;
            }
            f.shed = e.at;
            f.man = latest == null ? NONE : latest.man;
        }

        boolean isDue(Engine e, int day) {
            book.openAt(day);
            book.lookAt(e, day, null);
            return book.firstHolding(DUE) != NONE;
        }

        int countBeyond(int a, int b, int n) {
            int count = 0;
            for (int i = 0; i < n; i++) {
                Fact f = facts[i];
                if (f.kind == RUN && within(f.day, a, b) && f.reason == 0 && f.beyond) {
                    count++;
                }
            }
            return count;
        }

        /** The engine that helps at a fails, or LACKING. */
        int helper(Fact failure, int n) {
            int nearest = LACKING;
            int least = LONGEST_WAY + 1;
            for (int i = 0; i < n; i++) {
                Fact f = facts[i];
                if (!isSpareAt(f, failure)) {
                    continue;
                }
                int way = ways[turns[f.turn].from * MOST_SHEDS + failure.shed];
                if (way < least || way == least && f.engine < nearest) {
                    least = way;
                    nearest = f.engine;
                }
            }
            return nearest;
        }

        private boolean isSpareAt(Fact f, Fact failure) {
            if (f.kind != RUN || f.day != failure.day || f.reason != 0 || f.engine == failure.engine) {
                return false;
            }
            Turn t = turns[f.turn];
            return t.spare == 1 && within(failure.value, t.a, t.b - 1);
        }

        int coalLeft(int shed, int day, int n) {
            int left = 0;
            for (int i = 0; i < n; i++) {
                Fact f = facts[i];
                if (f.day > day) {
                    continue;
                }
                if (f.kind == COALS && f.shed == shed) {
                    left += f.value;
                } else if (f.kind == RUN && f.reason == 0 && turns[f.turn].from == shed) {
                    left -= f.coal;
                }
            }
            return left;
        }

        /** How many engines of a class (NONE: of all) whose home is one shed another one keeps. */
        int countKept(int keeper, int home, int clas) {
            int count = 0;
            for (int i = 0; i < engineCount; i++) {
                Engine e = engines[i];
                if (e.keeper == keeper && e.home == home && (clas == NONE || e.clas == clas)) {
                    count++;
                }
            }
            return count;
        }

        void noteReasons(int n) {
            for (int i = 0; i < n; i++) {
                noted[i] = facts[i].reason;
            }
        }

        /** The first run of n facts that held as noted and does not now, or the other way. */
        int firstTurned(int n) {
            for (int i = 0; i < n; i++) {
                if (facts[i].kind == RUN && (noted[i] == 0) != (facts[i].reason == 0)) {
                    return i;
                }
            }
            return NONE;
        }
    }

    /** The engines for a day's turns at the least price, or the turns that lack. */
    private static final class Duties {
        private static final int UNREACHED = 1 << 29;

        final int[] chosen = new int[MOST_TURNS];
        int lacking = NONE;
        private final int[] asked = new int[MOST_ASKED];
        private int many;
        private final int[] able = new int[MOST_ASKED];
        private final int[] prices = new int[MOST_ASKED * MOST_ENGINES];
        private final int[] united = new int[1 << MOST_ASKED];
        // By the engines that the first turns took: the least price of all the other turns.
        private final int[] least = new int[1 << MOST_ENGINES];

        Duties() {
            Arrays.fill(chosen, NONE);
        }

        /** Looks at which engines may work which turns in a morning that the board has settled. */
        void ask(Board board, int day, int turns) {
            board.book.openAt(day);
            many = 0;
            for (int t = 0; t < board.turnCount; t++) {
                if ((turns >> t & 1) != 0 && many < MOST_ASKED) {
                    asked[many] = t;
                    able[many] = findAble(board, day, board.turns[t]);
                    many++;
                }
            }
        }

        private int findAble(Board board, int day, Turn t) {
            Book book = board.book;
            int found = 0;
            for (int i = 0; i < board.engineCount; i++) {
                Engine e = board.engines[i];
                if (e.isSound() && e.at == t.from) {
                    book.lookAt(e, day, t);
                    if (book.firstHolding(BAR) == NONE) {
                        found |= 1 << i;
                        prices[many * MOST_ENGINES + i] = book.amount(book.firstHolding(PRICE), 9999);
                    }
                }
            }
            return found;
        }

        /** The least price, or LACKING. */
        int solve(int engineCount) {
            Arrays.fill(chosen, NONE);
            uniteSets(able, many, united);
            int set = findLack();
            lacking = 0;
            if (set != 0) {
                for (int i = 0; i < many; i++) {
                    lacking |= (set >> i & 1) << asked[i];
                }
                return LACKING;
            }
            reckonLeast(engineCount);
            choose(engineCount);
            return least[0];
        }

        private int findLack() {
            int first = 0;
            for (int set = 1; set < 1 << many; set++) {
                int size = Integer.bitCount(set);
                if (Integer.bitCount(united[set]) < size) {
                    int most = Integer.bitCount(first);
                    if (first == 0 || size < most || size == most && isAhead(set, first)) {
                        first = set;
                    }
                }
            }
            return first;
        }

        private void reckonLeast(int engineCount) {
            // Sets with an engine that may work none of the turns are never come to.
            int useful = united[(1 << many) - 1];
            for (int used = useful; used >= 0; used--) {
                int i = Integer.bitCount(used);
                if (i > many || (used & ~useful) != 0) {
                    continue;
                }
                if (i == many) {
                    least[used] = 0;
                    continue;
                }
                int free = able[i] & ~used;
                int found = UNREACHED;
                for (int e = 0; e < engineCount; e++) {
                    if ((free >> e & 1) != 0) {
                        found = Math.min(found, priceWith(i, e, used));
                    }
                }
                least[used] = found;
            }
        }

        private int priceWith(int i, int e, int used) {
            return Math.min(UNREACHED, prices[i * MOST_ENGINES + e] + least[used | 1 << e]);
        }

        private void choose(int engineCount) {
            int used = 0;
            for (int i = 0; i < many; i++) {
                int free = able[i] & ~used;
                for (int e = 0; e < engineCount; e++) {
                    if ((free >> e & 1) != 0 && priceWith(i, e, used) == least[used]) {
                        chosen[asked[i]] = e;
                        used |= 1 << e;
                        break;
                    }
                }
            }
        }
    }

    /** The rows of engines that come in and go out, and their roads. */
    private static final class Stabling {
        int ins;
        int outs;
        final int[] chosen = new int[MOST_ENGINES];
        private final int[] inRow = new int[MOST_IN_ROW];
        private final int[] outRow = new int[MOST_IN_ROW];
        // When those of the row that comes in go out.
        private final int[] leaves = new int[MOST_IN_ROW];
        private final int[] trial = new int[MOST_IN_ROW];
        private final int[] found = new int[MOST_IN_ROW];
        // By roads: when the first of those that are there goes out.
        private final int[] soonest = new int[3];
        private int many;
        private int fewest;

        Stabling() {
            Arrays.fill(chosen, NONE);
        }

        int join(boolean out, int engine) {
            int length = out ? outs : ins;
            int[] row = out ? outRow : inRow;
            if (length >= MOST_IN_ROW || indexIn(row, length, engine) != NONE) {
                return NONE;
            }
            row[length] = engine;
            ins += out ? 0 : 1;
            outs += out ? 1 : 0;
            return length + 1;
        }

        private static int indexIn(int[] row, int length, int engine) {
            for (int i = 0; i < length; i++) {
                if (row[i] == engine) {
                    return i;
                }
            }
            return NONE;
        }

        /** Finds when each goes out; false if the rows are empty or not of the same engines. */
        boolean rank() {
            if (ins == 0 || ins != outs) {
                return false;
            }
            for (int i = 0; i < ins; i++) {
                leaves[i] = indexIn(outRow, outs, inRow[i]);
                if (leaves[i] == NONE) {
                    return false;
                }
            }
            return true;
        }

        int solve(int roads) {
            many = roads;
            fewest = ins + 1;
            Arrays.fill(soonest, MOST_IN_ROW);
            tryRoads(0, 0, 0);
            Arrays.fill(chosen, NONE);
            for (int i = 0; i < ins; i++) {
                chosen[inRow[i]] = found[i];
            }
            return fewest;
        }

        /** Empty roads are alike, so the first of all the best never leaves one out: the least is tried alone. */
        private void tryRoads(int i, int used, int blocked) {
            if (blocked >= fewest) {
                return;
            }
            if (i >= ins) {
                fewest = blocked;
                System.arraycopy(trial, 0, found, 0, ins);
                return;
            }
            for (int r = 0; r < many && r <= used; r++) {
                int before = soonest[r];
                trial[i] = r;
                soonest[r] = Math.min(before, leaves[i]);
                tryRoads(i + 1, r == used ? used + 1 : used, before < leaves[i] ? blocked + 1 : blocked);
                soonest[r] = before;
            }
        }
    }

    /** Months in the shops. */
    private static final class Calendar {
        private static final int MOST_AWAY = 5;
        private static final int UNTRIED = 0;
        private static final int ENOUGH = 1;
        private static final int TOO_FEW = 2;

        // By turns: the classes that may not, as bits.
        final int[] barred = new int[MOST_TURNS];
        final int[] chosen = new int[MOST_ENGINES];
        private final int[] away = new int[MOST_AWAY];
        private int many;
        private final int[] able = new int[MOST_ASKED];
        private int turns;
        private final int[] united = new int[1 << MOST_ASKED];
        // By sets of those that go to the shops: whether the turns can be worked without them.
        private final int[] verdicts = new int[1 << MOST_AWAY];
        private final int[] inMonth = new int[MOST_AWAY];
        private final int[] trial = new int[MOST_AWAY];
        private int months;
        private int most;
        private int failing;

        Calendar() {
            Arrays.fill(chosen, NONE);
        }

        void ask(Board board, int engines, int asked) {
            many = 0;
            for (int e = 0; e < board.engineCount; e++) {
                if ((engines >> e & 1) != 0 && many < MOST_AWAY) {
                    away[many] = e;
                    many++;
                }
            }
            turns = 0;
            for (int t = 0; t < board.turnCount; t++) {
                if ((asked >> t & 1) != 0 && turns < MOST_ASKED) {
                    able[turns] = findAble(board, t);
                    turns++;
                }
            }
            uniteSets(able, turns, united);
        }

        private int findAble(Board board, int turn) {
            int found = 0;
            for (int e = 0; e < board.engineCount; e++) {
                if ((barred[turn] >> board.engines[e].clas & 1) == 0) {
                    found |= 1 << e;
                }
            }
            return found;
        }

        boolean solve(int w, int p, int f) {
            months = w;
            most = p;
            failing = f;
            Arrays.fill(verdicts, UNTRIED);
            Arrays.fill(inMonth, 0);
            if (!tryMonths(0, 0)) {
                return false;
            }
            Arrays.fill(chosen, NONE);
            for (int i = 0; i < many; i++) {
                chosen[away[i]] = trial[i];
            }
            return true;
        }

        /** Months are alike, so the first of all never leaves an empty one out: the least is tried alone. */
        private boolean tryMonths(int i, int used) {
            if (i >= many) {
                return true;
            }
            for (int m = 0; m < months && m <= used; m++) {
                int before = inMonth[m];
                int set = before | 1 << i;
                if (Integer.bitCount(set) <= most && isEnoughWithout(set)) {
                    trial[i] = m;
                    inMonth[m] = set;
                    if (tryMonths(i + 1, m == used ? used + 1 : used)) {
                        return true;
                    }
                    inMonth[m] = before;
                }
            }
            return false;
        }

        private boolean isEnoughWithout(int set) {
            if (verdicts[set] == UNTRIED) {
                verdicts[set] = tryWithout(set) ? ENOUGH : TOO_FEW;
            }
            return verdicts[set] == ENOUGH;
        }

        /** By Hall: any turns together have as many as they are, and one more if whichever one may fail. */
        private boolean tryWithout(int set) {
            int gone = 0;
            for (int i = 0; i < many; i++) {
                gone |= (set >> i & 1) << away[i];
            }
            for (int some = 1; some < 1 << turns; some++) {
                if (Integer.bitCount(united[some] & ~gone) < Integer.bitCount(some) + failing) {
                    return false;
                }
            }
            return true;
        }
    }

    /** The fewest causes of failures. */
    private static final class Blame {
        private static final int MOST_CAUSES = 3;
        private static final int CAUSE_BITS = 24;

        int picked;
        // The causes of each failure as bits, each such set once.
        private final int[] own = new int[MOST_FACTS];
        private int many;
        private int seen;
        private int wanted;
        private int count;

        /** Takes the causes of those among the first n facts, as the board has settled them. */
        void gather(Board board, int n) {
            many = 0;
            seen = 0;
            for (int i = 0; i < n; i++) {
                Fact f = board.facts[i];
                if (f.kind == FAILS && f.did) {
                    int man = f.man == NONE ? 0 : 1 << 16 + f.man;
                    note(1 << board.engines[f.engine].clas | 1 << 8 + f.shed | man);
                }
            }
        }

        private void note(int set) {
            for (int i = 0; i < many; i++) {
                if (own[i] == set) {
                    return;
                }
            }
            own[many] = set;
            many++;
            seen |= set;
        }

        /** How many sets of the fewest there are, or LACKING; picked becomes the wanted one of them, or NONE. */
        int search(int index) {
            wanted = index;
            picked = NONE;
            count = 0;
            if (many == 0) {
                return 0;
            }
            for (int size = 1; size <= MOST_CAUSES && count == 0; size++) {
                pick(0, size, 0);
            }
            return count == 0 ? LACKING : count;
        }

        /** Tries the sets that have so many causes more, from a bit on, in the order in which they are told. */
        private void pick(int bit, int left, int set) {
            if (left <= 0) {
                if (hitsAll(set)) {
                    picked = count == wanted ? set : picked;
                    count++;
                }
                return;
            }
            for (int b = bit; b < CAUSE_BITS; b++) {
                if ((seen >> b & 1) != 0) {
                    pick(b + 1, left - 1, set | 1 << b);
                }
            }
        }

        private boolean hitsAll(int set) {
            for (int i = 0; i < many; i++) {
                if ((own[i] & set) == 0) {
                    return false;
                }
            }
            return true;
        }
    }
}
