import java.util.Arrays;
import java.util.List;
import java.util.Set;

/** Boundary cases of the document's part II: the tape, texts and their faults, rules in force (2 to 5, 18, 19). */
public final class BoundsTextsTest {
    private static final int NONE = Bounds.NONE;
    private static final int MIN = Bounds.MIN;
    private static final int MAX = Bounds.MAX;
    private static final List<String> RULE_WORDS = List.of("bar", "due", "wear", "coal", "price", "strike");
    private static final List<String> VARS = List.of("day", "class", "miles", "days", "looked", "worn", "load", "line",
        "hours", "far", "lent", "spare");
    private static final List<String> LINKS = List.of("from", "if", "or", "and", "not");
    private static final List<String> SIGNS = List.of(";", "+", "-", "*", "/", "==", "!=", "<", "<=", "(", ")");

    public static void main(String[] args) {
        feeding();
        feedingBytes();
        takingBack();
        emptiedTape();
        sixTexts();
        longestText();
        blanks();
        names();
        words();
        ints();
        signs();
        longestTokens();
        syntaxEverywhere();
        textEnds();
        firstFault();
        tokens();
        tokensOfText();
        ruleRoom();
        openRoom();
        wrongDays();
        faultsChangeNothing();
        places();
        ruleDays();
        ruleNumbers();
        ruleFull();
        order();
        replaced();
        struck();
        Bounds.finish();
    }

    private static void holds(int promise, String words) {
        Bounds.holds(promise, words);
    }

    private static void due(String call, int got, int want) {
        Bounds.due(call, got, want);
    }

    private static void reads(String s, int fault, int place) {
        Bounds.reads(s, fault, place);
    }

    private static int read(EngineShed x, String s) {
        return Bounds.read(x, s);
    }

    private static String letters(int i) {
        return "" + (char) ('a' + i / 26) + (char) ('a' + i % 26);
    }

    // ---- the tape

    private static EngineShed tapeOf(int bytes) {
        EngineShed x = new EngineShed();
        Bounds.put(x, "bar a if 1 < 2;" + " ".repeat(bytes - 15));
        return x;
    }

    private static void feeding() {
        holds(2, "NONE, and nothing comes, if it would have more than 2,000.");
        EngineShed x = new EngineShed();
        for (int i = 1; i <= 100; i++) due("feed " + i, x.feed(0, 0, 0, 0, 0), 20 * i);
        due("feed 101", x.feed(0, 0, 0, 0, 0), NONE);
        due("bytes", x.count(6), 2000);
        due("2,000 to 1,980", x.back(20), 1980);
        due("1,980 to 2,000", x.feed(0, 0, 0, 0, 0), 2000);
        due("one goes", x.back(1), 1999);
        due("1,999 to 2,019", x.feed(0, 0, 0, 0, 0), NONE);
        due("18 go", x.back(18), 1981);
        due("1,981 to 2,001", x.feed(0, 0, 0, 0, 0), NONE);
        due("bytes", x.count(6), 1981);
        due("one goes", x.back(1), 1980);
        due("1,980 to 2,000", x.feed(0, 0, 0, 0, 0), 2000);
        for (int bytes : new int[] {2000, 1999, 1990, 1981}) {
            Bounds.refused(() -> tapeOf(bytes), "feed onto " + bytes, NONE, y -> y.feed(0x3b3b3b3b, -1, 0, MIN, MAX));
        }
        EngineShed y = tapeOf(1981);
        y.feed(0x3b3b3b3b, 0, 0, 0, 0);
        due("nothing came", y.read(), 0);
        due("its rule", y.rules(0), 1);
        due("an empty tape takes as much again", y.feed(0, 0, 0, 0, 0), 20);
    }

    /** Twenty blanks, but for one byte in turn that is of no token: its place tells where it came. */
    private static void feedingBytes() {
        holds(2, "Twenty bytes, the highest of a first, come behind the tape: how many it has.");
        for (int at = 0; at < 20; at++) {
            int[] w = new int[5];
            Arrays.fill(w, 0x20202020);
            w[at / 4] ^= (0x20 ^ 0xE9) << 24 - at % 4 * 8;
            EngineShed x = new EngineShed();
            due("feed", x.feed(w[0], w[1], w[2], w[3], w[4]), 20);
            due("read", x.read(), 1);
            due("the byte at " + at, x.place(), at);
        }
        EngineShed x = new EngineShed();
        x.feed(0x62617220, 0x61206966, 0x20313D3D, 0x313B6475, 0x65206220);
        due("behind the tape", x.feed(0x69662032, 0x203C3D20, 0x333B2020, 0x20202020, 0x20202020), 40);
        due("read", x.read(), 0);
        due("rules", x.rules(0), 2);
        due("a bar", x.rule(0, 0, 0), 0);
        due("a due", x.rule(0, 1, 0), 1);
    }

    private static void takingBack() {
        holds(3, "NONE, and nothing goes, if it has not so many, or n is below 0.");
        for (int bytes : new int[] {15, 20, 1999, 2000}) {
            for (int n : new int[] {bytes + 1, -1, MIN, MAX, bytes + 1000}) {
                Bounds.refused(() -> tapeOf(bytes), "back(" + n + ") of " + bytes, NONE, x -> x.back(n));
            }
            EngineShed x = tapeOf(bytes);
            due("back(0)", x.back(0), bytes);
            due("back(1)", x.back(1), bytes - 1);
            due("back of more than there are now", x.back(bytes), NONE);
            due("back of all", x.back(bytes - 1), 0);
            due("back(1) of none", x.back(1), NONE);
            due("back(0) of none", x.back(0), 0);
            due("read of none", x.read(), 0);
            due("rules", x.rules(0), 0);
        }
        Bounds.refused(Bounds::empty, "back(1) of none", NONE, x -> x.back(1));
        Bounds.refused(Bounds::empty, "back(-1) of none", NONE, x -> x.back(-1));
        holds(3, "The last n bytes of the tape go: how many it has.");
        EngineShed x = new EngineShed();
        Bounds.put(x, "bar a if 1 < 2;due b if 1 < 2;");
        due("the last 15", x.back(15), 15);
        due("read", x.read(), 0);
        due("the first is there, the last is not", x.rules(0), 1);
        due("it is the first", x.rule(0, 0, 0), 0);
        Bounds.put(x, "strike a;?");
        due("one", x.back(1), 9);
        due("read", x.read(), 0);
        due("rules", x.rules(0), 0);
    }

    private static void emptiedTape() {
        holds(4, "The tape, which is empty then, is read: 0, or the number of its FAULT.");
        for (String s : new String[] {"", " ", "bar a if 1 < 2;", "?", "from 120;", "wear a ((((((("}) {
            EngineShed x = new EngineShed();
            read(x, s);
            due("bytes behind '" + s + "'", x.count(6), 0);
            due("back(1)", x.back(1), NONE);
            due("what is read is empty", x.read(), 0);
            due("place", x.place(), NONE);
        }
        EngineShed x = new EngineShed();
        due("a fault", read(x, "bar a if 1 <"), 1);
        due("it does not go on", read(x, "2;"), 1);
        due("its place", x.place(), 0);
    }

    // ---- texts

    private static EngineShed textsOf(int many, String tape) {
        EngineShed x = Bounds.sheds(2);
        for (int i = 0; i < many; i++) read(x, "wear " + letters(i) + " 1;");
        Bounds.put(x, tape);
        return x;
    }

    private static void sixTexts() {
        holds(4, "-2, and the tape stays: 6 texts are there.");
        EngineShed x = new EngineShed();
        for (int i = 0; i < 6; i++) {
            due("a fault ahead of text " + i, read(x, "?"), 1);
            due("texts", x.count(5), i);
            due("text " + i, read(x, "wear " + letters(i) + " 1;"), 0);
            due("texts", x.count(5), i + 1);
        }
        for (String tape : new String[] {"strike aa;", "?", "from 120;", "", "wear a ((((((("}) {
            Bounds.refused(() -> textsOf(6, tape), "a 7th, '" + tape + "'", -2, EngineShed::read);
            EngineShed y = textsOf(6, tape);
            due("a 7th", y.read(), -2);
            due("the tape", y.count(6), tape.length());
            due("it takes more", y.feed(0, 0, 0, 0, 0), tape.length() + 20);
            due("place", y.place(), NONE);
            due("texts", y.count(5), 6);
            due("rules", y.rules(0), 6);
        }
        due("a 6th", textsOf(5, "strike aa;").read(), 0);
        Bounds.refused(Bounds::fullYard, "a 7th", -2, EngineShed::read);
        holds(4, "6 in a life, numbered from 0 on as they are read without a FAULT");
        EngineShed y = new EngineShed();
        for (int i = 0; i < 6; i++) {
            read(y, "wear a 1; ?");
            read(y, "from 1;".substring(0, i % 2 * 7) + "wear " + letters(i) + " 1;");
        }
        for (int k = 0; k < 6; k++) due("the number of text " + k, y.rule(1, k, 1), k < 3 ? 2 * k : 2 * k - 5);
        EngineShed z = new EngineShed();
        for (int i = 0; i < 6; i++) due("an empty text is one", read(z, ""), 0);
        due("no more", z.read(), -2);
    }

    private static void longestText() {
        holds(4, "texts of 2,000 bytes at most");
        String rule = "bar b if 1 < 2;";
        reads(" ".repeat(2000), 0, NONE);
        reads(" ".repeat(1985) + rule, 0, NONE);
        reads(rule + " ".repeat(1985), 0, NONE);
        reads(" ".repeat(1999) + "?", 1, 1999);
        reads(" ".repeat(1986) + rule.substring(0, 14), 1, 2000);
        reads("a" + "b".repeat(1999), 1, 0);
        reads("from " + "1".repeat(1995), 1, 5);
        EngineShed x = new EngineShed();
        due("read", read(x, " ".repeat(1985) + rule), 0);
        due("its rule", x.rule(0, 0, 0), 0);
    }

    // ---- tokens

    private static void blanks() {
        holds(4, "with blanks (9, 10, 13, 32) between or not");
        for (int c = 0; c < 256; c++) {
            boolean blank = c == 9 || c == 10 || c == 13 || c == 32;
            String s = "wear a 1" + (char) c + ";";
            if (blank || c >= '0' && c <= '9') reads(s, 0, NONE);
            else if (c == ';' || c == '+' || c == '-' || c == '*' || c == '/') reads(s, 1, 9);
            else reads(s, 1, 8);
            if (blank) {
                reads((char) c + "from" + (char) c + (char) c + "3" + (char) c + ";" + (char) c + "strike" + (char) c + "a;" + (char) c, 0, NONE);
                reads("stri" + (char) c + "ke a;", 1, 0);
                reads("wear a 1" + (char) c + "2;", 1, 9);
                reads("bar a if 1 <" + (char) c + "= 2;", 1, 13);
                reads("bar a if 1 =" + (char) c + "= 2;", 1, 11);
                reads("bar a if 1 !" + (char) c + "= 2;", 1, 11);
            }
        }
        reads("bar a if1<2or(3)==day;due b if not not 1<2;wear c(1)if 1<2;", 0, NONE);
    }

    private static void names() {
        holds(4, "NAMES (letters a .. z, 8 at most, none of the words in quotes)");
        for (int many = 1; many <= 8; many++) reads("strike " + "z".repeat(many) + ";", 0, NONE);
        reads("strike azazazaz;", 0, NONE);
        reads("strike abcdefghi;", 1, 7);
        reads("strike zzzzzzzzz;", 1, 7);
        reads("bar aaaaaaaaa if 1 < 2;", 1, 4);
        // From 'a' - 1 to 'z' + 1, and what looks like letters.
        reads("strike `;", 1, 7);
        reads("strike {;", 1, 7);
        reads("strike a`;", 1, 8);
        reads("strike z{;", 1, 8);
        reads("strike A;", 1, 7);
        reads("strike aZ;", 1, 8);
        reads("strike @;", 1, 7);
        reads("strike _a;", 1, 7);
        reads("strike a1;", 1, 8);
        reads("strike \u00e1;", 1, 7);
        // Names of 8 letters are told apart by each of their letters.
        for (int i = 0; i < 8; i++) {
            EngineShed x = new EngineShed();
            StringBuilder other = new StringBuilder("abcdefgh");
            other.setCharAt(i, 'z');
            read(x, "wear abcdefgh 1; wear " + other + " 2;");
            due("two names that differ at " + i, x.rules(0), 2);
            read(x, "strike " + other + ";");
            due("one struck", x.rules(0), 1);
            due("the first stays", x.rule(0, 0, 2), 0);
        }
        EngineShed y = new EngineShed();
        read(y, "wear a 1; wear aa 2; wear aaaaaaa 3; wear aaaaaaaa 4;");
        due("names of 1, 2, 7 and 8", y.rules(0), 4);
        EngineShed z = new EngineShed();
        for (char c : new char[] {'b', 'z'}) {
            StringBuilder s = new StringBuilder();
            for (int many = 1; many <= 8; many++) s.append("wear ").append(("" + c).repeat(many)).append(" 1;");
            read(z, s.toString());
        }
        due("names of b and of z", z.rules(0), 16);
    }

    private static void words() {
        holds(4, "none of the words in quotes");
        Set<String> words = new java.util.TreeSet<>(RULE_WORDS);
        words.addAll(VARS);
        words.addAll(LINKS);
        due("words", words.size(), 23);
        for (String word : words) {
            reads("strike " + word + ";", 1, 7);
            reads("bar " + word + " if 1 < 2;", 1, 4);
            String longer = word + "q";
            reads("strike " + longer + ";", 0, NONE);
            reads("strike q" + word + ";", 0, NONE);
            String shorter = word.substring(0, word.length() - 1);
            reads("strike " + shorter + ";", words.contains(shorter) ? 1 : 0, words.contains(shorter) ? 7 : NONE);
            String tail = word.substring(1);
            reads("strike " + tail + ";", words.contains(tail) ? 1 : 0, words.contains(tail) ? 7 : NONE);
        }
        reads("strike days;", 1, 7);
        reads("strike dayss;", 0, NONE);
    }

    private static void ints() {
        holds(4, "INTS (1 to 4 digits)");
        for (String i : new String[] {"0", "9", "00", "0000", "9999", "0001", "10", "123"}) reads("wear a " + i + ";", 0, NONE);
        for (String i : new String[] {"00000", "12345", "99999", "000000000001", "4294967297"}) reads("wear a " + i + ";", 1, 7);
        for (String i : new String[] {"00000", "00001", "4294967297", "00119"}) reads("from " + i + ";", 1, 5);
        EngineShed x = new EngineShed();
        due("0119", read(x, "from 0119; wear a 1;"), 0);
        due("at 118", x.rules(118), 0);
        due("at 119", x.rules(119), 1);
    }

    private static void signs() {
        holds(4, "A longer one, all else, is no TOKEN.");
        reads("bar a if 1 = 2;", 1, 11);
        reads("bar a if 1 =", 1, 11);
        reads("bar a if 1 ! 2;", 1, 11);
        reads("bar a if 1 !", 1, 11);
        reads("bar a if 1 > 2;", 1, 11);
        reads("bar a if 1 >= 2;", 1, 11);
        reads("bar a if 1 =< 2;", 1, 11);
        reads("bar a if 1 <> 2;", 1, 12);
        reads("bar a if 1 & 2;", 1, 11);
        for (String sign : new String[] {"==", "!=", "<", "<="}) {
            reads("bar a if 1" + sign + "2;", 0, NONE);
            reads("bar a if 1 " + sign + " 2;", 0, NONE);
            reads("bar a if 1" + sign, 1, 10 + sign.length());
            reads("bar a if 1" + sign + "=2;", sign.equals("<") ? 0 : 1, sign.equals("<") ? NONE : 10 + sign.length());
        }
        for (String c : new String[] {".", ",", ":", "\"", "'", "[", "{", "%", "^", "|", "\u0000", "\u007f", "\u00a0", "\u00ff"}) {
            reads("wear a 1;" + c, 1, 9);
            reads("wear a " + c + ";", 1, 7);
            reads("wear a 1" + c + ";", 1, 8);
        }
    }

    private static void longestTokens() {
        holds(4, "TOKENS, the longest that can be");
        reads("bar a if 1<=2;", 0, NONE);
        reads("bar a if 1<==2;", 1, 12);
        reads("bar a if 1===2;", 1, 12);
        reads("bar a if 1!==2;", 1, 12);
        reads("bar a if 1<<2;", 1, 11);
        reads("bar a ifnot 1<2;", 1, 6);
        reads("bar a if not1<2;", 0, NONE);
        reads("bar a if notday<2;", 1, 9);
        reads("bar a if days<2;", 0, NONE);
        reads("bar a if da y<2;", 1, 9);
        reads("bara if 1<2;", 1, 0);
        reads("from1;", 0, NONE);
        reads("from1;strike a;", 0, NONE);
        reads("wear a 1234 5;", 1, 12);
        reads("wear a 12day;", 1, 9);
        reads("wear a day12;", 1, 10);
    }

    // ---- syntax

    private static List<String> units(String... more) {
        List<String> all = new java.util.ArrayList<>(VARS);
        all.add("7");
        all.add("(");
        all.addAll(List.of(more));
        return all;
    }

    private static List<String> signs(String... more) {
        List<String> all = new java.util.ArrayList<>(List.of("+", "-", "*", "/"));
        all.addAll(List.of(more));
        return all;
    }

    /** Behind a beginning: each token that there is, and what is none; some go on, all others are SYNTAX. */
    private static void goesOn(String begun, List<String> with, boolean ends) {
        List<String> tokens = new java.util.ArrayList<>(RULE_WORDS);
        tokens.addAll(VARS);
        tokens.addAll(LINKS);
        tokens.addAll(SIGNS);
        tokens.addAll(List.of("name", "7", "99999", "ninechars", ".", "?", "=", "!", ">", "Bar"));
        for (String t : tokens) {
            String s = begun + " " + t;
            EngineShed x = new EngineShed();
            int fault = read(x, s);
            if (with.contains(t)) {
                due("'" + s + "' goes on, fault at the end or none", fault == 0 || fault == 1 && x.place() == s.length() ? 1 : 0, 1);
            } else {
                due("'" + s + "'", fault, 1);
                due("place of '" + s + "'", x.place(), begun.length() + 1);
            }
        }
        reads(begun, ends ? 0 : 1, ends ? NONE : begun.length());
        reads(begun + " \n ", ends ? 0 : 1, ends ? NONE : begun.length() + 3);
    }

    private static void syntaxEverywhere() {
        holds(4, "1 SYNTAX: a TOKEN, or what is none, with which no text goes on.");
        List<String> first = new java.util.ArrayList<>(RULE_WORDS);
        first.add("from");
        goesOn("", first, true);
        goesOn("from", List.of("7"), false);
        goesOn("from 9", List.of(";"), false);
        goesOn("from 9;", RULE_WORDS, true);
        for (String word : RULE_WORDS) goesOn(word, List.of("name"), false);
        goesOn("bar a", List.of("if"), false);
        goesOn("due a", List.of("if"), false);
        goesOn("strike a", List.of(";"), false);
        goesOn("strike a;", RULE_WORDS, true);
        for (String word : new String[] {"wear a", "coal a", "price a"}) {
            goesOn(word, units(), false);
            goesOn(word + " 1", signs("if", ";"), false);
            goesOn(word + " (", units(), false);
            goesOn(word + " (1", signs(")"), false);
            goesOn(word + " (1)", signs("if", ";"), false);
            goesOn(word + " ((1)", signs(")"), false);
            goesOn(word + " 1 +", units(), false);
            goesOn(word + " day", signs("if", ";"), false);
            goesOn(word + " 1;", RULE_WORDS, true);
        }
        for (String word : new String[] {"bar a if", "due a if", "wear a 1 if", "coal a 1 if", "price a 1 if", "bar a if 1 < 2 and 3"}) {
            if (word.endsWith("if")) {
                goesOn(word, units("not"), false);
                goesOn(word + " not", units("not"), false);
                goesOn(word + " not not", units("not"), false);
                goesOn(word + " 1 < 2 and", units("not"), false);
                goesOn(word + " 1 < 2 or", units("not"), false);
                goesOn(word + " 1", signs("==", "!=", "<", "<="), false);
                goesOn(word + " (", units(), false);
                goesOn(word + " not (", units(), false);
                goesOn(word + " 1 < (", units(), false);
                goesOn(word + " not (1", signs(")"), false);
                goesOn(word + " not (1)", signs("==", "!=", "<", "<="), false);
                goesOn(word + " 1 *", units(), false);
                for (String sign : new String[] {"==", "!=", "<", "<="}) goesOn(word + " 1 " + sign, units(), false);
                goesOn(word + " 1 < 2", signs("and", "or", ";"), false);
                goesOn(word + " 1 < (2", signs(")"), false);
                goesOn(word + " 1 < (2)", signs("and", "or", ";"), false);
                goesOn(word + " 1 < 2 /", units(), false);
                goesOn(word + " 1 < 2;", RULE_WORDS, true);
            } else {
                goesOn(word, signs("==", "!=", "<", "<="), false);
            }
        }
    }

    private static void textEnds() {
        holds(4, "(a byte; the text's end: its length)");
        String whole = "from 9; bar a if not (day + 1) < 2 and 3 == 4; wear b 7 if 1 <= 2; strike a;";
        for (int length = 0; length <= whole.length(); length++) {
            String s = whole.substring(0, length);
            String t = s.stripTrailing();
            boolean ends = t.isEmpty() || t.endsWith(";");
            if (ends) {
                reads(s, 0, NONE);
                reads(s + "  ", 0, NONE);
                continue;
            }
            EngineShed x = new EngineShed();
            due("'" + s + "'", read(x, s + " "), 1);
            int place = x.place();
            // A word that is cut short may be a fault itself, at its beginning.
            boolean cut = place < s.length() && s.substring(place).matches("[a-z]+|!|=");
            due("place of '" + s + "'", cut || place == s.length() + 1 ? 1 : 0, 1);
        }
        reads("bar", 1, 3);
        reads("bar   ", 1, 6);
        reads("\n\nfrom 7", 1, 8);
        reads("wear a (1", 1, 9);
    }

    private static void firstFault() {
        holds(4, "FAULTS, the first by its place (a byte; the text's end: its length), of one place the least");
        String full = "strike a;".repeat(24);
        reads("? ?", 1, 0);
        reads("wear a 1 2; wear a (((((((1", 1, 9);
        reads("wear a (((((((1; ?", 2, 13);
        reads("wear a ((((((1(", 1, 14);
        reads("wear a ((((((?", 1, 13);
        reads(full + "bar 1 ?", 2, 216);
        reads(full + "? bar", 1, 216);
        reads("from 120; ?", 1, 10);
        reads("from 120; " + full + "bar", 2, 226);
        reads("from 120; wear a (((((((", 2, 23);
        reads("from 9999" , 1, 9);
        reads("from 12345;", 1, 5);
        // A 401st token with which no text goes on is SYNTAX: of one place the least.
        String many = "wear a 1" + "+1".repeat(198) + ";";
        reads(many + "bar", 2, many.length());
        reads(many + ";", 1, many.length());
        reads(many + "name", 1, many.length());
        reads(many + "?", 1, many.length());
        reads(many, 0, NONE);
        reads(many + " \t", 0, NONE);
    }

    // ---- room

    private static void tokens() {
        holds(4, "2 ROOM: a 401st TOKEN");
        for (int lack = 0; lack < 6; lack++) {
            // 4 + 2 * (198 - lack) tokens.
            String sum = "wear a 1" + "+1".repeat(198 - lack) + ";";
            reads(sum, 0, NONE);
            String more = sum;
            int tokens = 400 - 2 * lack;
            for (String t : new String[] {" strike", " b", " ;", " strike", " c", " ;", " due", " d", " if", " 1"}) {
                more += t;
                tokens++;
                EngineShed x = new EngineShed();
                int fault = read(x, more + (t.equals(" ;") ? "" : "\n"));
                if (tokens > 400) {
                    due(tokens + " tokens", fault, 2);
                    due("the 401st", x.place(), at401(sum, tokens - 401, more));
                } else {
                    due(tokens + " tokens", fault, t.equals(" ;") ? 0 : 1);
                }
            }
        }
        reads("wear a 1" + "+1".repeat(199) + ";", 2, 8 + 2 * 198 + 1);
    }

    /** Where the 401st token stands, so many tokens ahead of the last one of a text. */
    private static int at401(String sum, int behind, String text) {
        int at = text.length();
        for (int i = 0; i <= behind; i++) at = text.lastIndexOf(' ', at - 1);
        return Math.max(at + 1, sum.length());
    }

    private static void tokensOfText() {
        holds(4, "a 401st TOKEN");
        // The end of a text is none: 399 and 400 tokens that lack an end are SYNTAX.
        String open = "wear a 1" + "+1".repeat(198);
        reads(open, 1, open.length());
        reads(open + "+", 1, open.length() + 1);
        reads(open + "+1", 2, open.length() + 1);
        reads(open + "+ ", 1, open.length() + 2);
        // from, INT and ; count, brackets and not count.
        reads("from 1;wear a 1" + "+1".repeat(196) + ";", 0, NONE);
        String from = "from 1;wear a 1" + "+1".repeat(196) + ";";
        reads(from + "strike", 1, from.length() + 6);
        reads(from + "strike a", 2, from.length() + 7);
        String opened = "wear a(1" + "+1".repeat(197) + ");";
        reads(opened, 0, NONE);
        reads(opened + "bar", 2, opened.length());
        String nots = "wear a 1 if" + " not".repeat(391) + " 1<2;";
        reads(nots, 0, NONE);
        reads(nots + "bar", 1, nots.length() + 3);
        reads(nots + "bar b", 2, nots.length() + 4);
        String all = "bar a if" + " not".repeat(393) + " 1<2;";
        reads(all, 0, NONE);
        reads(all + " bar", 2, all.length() + 1);
        String[] words = {"<", "<=", "==", "!="};
        for (String w : words) reads("bar a if" + " not".repeat(394) + " 1" + w + "2;", 2, 8 + 4 * 394 + 2 + w.length() + 1);
        // Rules of 398 tokens still say what they say.
        EngineShed x = Bounds.sheds(1);
        due("391 nots", read(x, nots), 0);
        due("1 is not worn", x.rules(0), 1);
        x.turn(0, 0, 0, 1, 0, 0, 0, false);
        x.run(0, 0, 0, 0);
        due("an odd number of nots", x.held(0, 1, 1), 0);
        due("390 nots", read(x, "wear a 1 if" + " not".repeat(390) + " 1<2;"), 0);
        due("an even number", x.held(0, 1, 1), 1);
    }

    private static void ruleRoom() {
        holds(4, "a 25th RULE (strikes count, too; at its first TOKEN)");
        String[] rules = {"bar a if 1 < 2;", "due b if 1 < 2;", "wear c 1;", "coal d 1;", "price e 1;", "strike a;"};
        for (String rule : rules) {
            String word = rule.substring(0, rule.indexOf(' '));
            for (String one : new String[] {"strike zz;", "wear b 1;"}) {
                String ahead = one.repeat(23);
                reads(ahead + rule, 0, NONE);
                reads(ahead + rule + " ", 0, NONE);
                reads(ahead + one + rule, 2, ahead.length() + one.length());
                reads(ahead + one + " " + word, 2, ahead.length() + one.length() + 1);
                reads("from 7; " + ahead + one + "\n" + word + " ?", 2, 8 + ahead.length() + one.length() + 1);
            }
        }
        EngineShed x = new EngineShed();
        StringBuilder s = new StringBuilder();
        for (int i = 0; i < 24; i++) s.append("price ").append(letters(i)).append(" 1;");
        due("24", read(x, s.toString()), 0);
        due("rules", x.rules(0), 24);
        due("24 again", read(x, s.toString()), 0);
        due("a 25th", read(x, s + "strike aa;"), 2);
        due("rules", x.rules(0), 24);
    }

    private static void openRoom() {
        holds(4, "a 7th ( within one another");
        for (String begun : new String[] {"wear a ", "coal a 1+", "bar a if ", "due a if 1 <", "price a 1 if not "}) {
            String ends = begun.contains("if") && !begun.contains("<") ? "<1;" : ";";
            reads(begun + "(".repeat(6) + "1" + ")".repeat(6) + ends, 0, NONE);
            reads(begun + "(".repeat(7) + "1" + ")".repeat(7) + ends, 2, begun.length() + 6);
            reads(begun + "(".repeat(8) + "?", 2, begun.length() + 6);
            reads(begun + "(".repeat(7), 2, begun.length() + 6);
            reads(begun + "(".repeat(6), 1, begun.length() + 6);
            reads(begun + "(".repeat(6) + "1" + ")".repeat(6) + "+" + "(".repeat(6) + "1" + ")".repeat(6) + ends, 0, NONE);
            reads(begun + "(".repeat(6) + "1)+(1)*(2" + ")".repeat(6) + ends, 0, NONE);
            reads(begun + "(".repeat(6) + "1)+((1", 2, begun.length() + 10);
            reads(begun + "(".repeat(6) + "1" + ")".repeat(6) + "+" + "(".repeat(7), 2, begun.length() + 20);
            reads(begun + "(".repeat(6) + "1" + ")".repeat(7), 1, begun.length() + 13);
        }
        // Those of one rule, or of one side, are not within those of another.
        String six = "((((((1))))))";
        reads("wear a " + six + " if " + six + "<" + six + " and " + six + "<" + six + "; wear b " + six + ";", 0, NONE);
    }

    private static void wrongDays() {
        holds(4, "If there is none, likewise: 5 WRONG: the DAY of from above 119.");
        reads("from 0;", 0, NONE);
        reads("from 118;", 0, NONE);
        reads("from 119;", 0, NONE);
        reads("from 120;", 5, 5);
        reads("from 121;", 5, 5);
        reads("from 0120;", 5, 5);
        reads("from 1000;", 5, 5);
        reads("from 9999;", 5, 5);
        reads("\n from\t\t120 ; strike a;", 5, 8);
        reads("from 120; strike a; strike", 1, 26);
        reads("from 120; strike a;" + "strike b;".repeat(24), 2, 19 + 23 * 9);
        reads("from 120; bar a if 1 / 0 == 120;", 5, 5);
        reads("bar a if day == 9999;", 0, NONE);
    }

    private static void faultsChangeNothing() {
        holds(4, "A text with a FAULT changes nothing.");
        String[] faulty = {"bar zz if 1 < 2; wear w 9; ?", "strike w; strike d; strike b; from", "from 120; strike w; wear d 9;",
            "strike b; wear a (((((((", "strike w;".repeat(25), "wear w 1" + "+1".repeat(199), "from 0; coal c 77; due d if 1 < 2"};
        for (String s : faulty) {
            EngineShed x = Bounds.yard();
            EngineShed y = Bounds.yard();
            // The tape and the place are what the document says that read() changes.
            x.back(17);
            y.back(17);
            read(x, "?");
            due("'" + s + "' has a fault", read(y, s) == 0 ? 1 : 0, 0);
            read(y, "?");
            Bounds.same("behind the fault of '" + s + "'", y, x);
        }
        // What a fault leaves unread is of no matter to the next text.
        String[] broken = {"bar a if not 1 <", "bar a if not not not 1 == 2 and not", "wear a ((1 + 2) * (3", "wear a (((((((", "wear a 1 + 2 * (3 - 4 * (",
            "wear a 1 if 2 < 3 or not (4", "from", "from 7", "strike", "bar a", "wear a 1 if", "bar a if 1 < (2 + 3) /", "from 120; wear a (1);"};
        for (String s : broken) {
            EngineShed x = Bounds.sheds(1);
            x.turn(0, 0, 0, 1, 0, 0, 0, false);
            x.run(0, 0, 0, 3);
            due("'" + s + "' has a fault", read(x, s) == 0 ? 1 : 0, 0);
            due("a text behind it", read(x, "wear q (1 + 2) * 3 - 1 if not 1 == 2 and day < 9;"), 0);
            due("wear behind '" + s + "'", x.held(0, 1, 1), 8);
            due("rules behind '" + s + "'", x.rules(0), 1);
            due("another fault", read(x, s) == 0 ? 1 : 0, 0);
            due("a text behind it", read(x, "from 3; bar b if 5 < day;"), 0);
            due("it does not bar", x.isVoid(0, 1), 0);
            due("rules on day 2", x.rules(2), 1);
            due("rules on day 3", x.rules(3), 2);
        }
        EngineShed z = new EngineShed();
        due("a fault", read(z, "from 9; bar a if 1 < 2; ?"), 1);
        due("its day is not the next text's", read(z, "due b if 1 < 2;"), 0);
        due("rules", z.rules(0), 1);
        due("its number", z.rule(0, 0, 2), 0);
        due("its text", z.rule(0, 0, 1), 0);
    }

    private static void places() {
        holds(5, "The byte of the latest read()'s FAULT (that was not -2); NONE without.");
        EngineShed x = new EngineShed();
        due("at first", x.place(), NONE);
        read(x, "  ?");
        due("a fault at 2", x.place(), 2);
        due("asked again", x.place(), 2);
        x.feed(0, 0, 0, 0, 0);
        x.back(20);
        due("behind a feed", x.place(), 2);
        read(x, "?");
        due("a fault at 0", x.place(), 0);
        read(x, "strike a;");
        due("without", x.place(), NONE);
        read(x, " ".repeat(1999) + "?");
        due("at the last byte", x.place(), 1999);
        for (int i = 1; i < 5; i++) read(x, "");
        read(x, "   ?");
        due("a fault at 3", x.place(), 3);
        EngineShed y = textsOf(5, "");
        read(y, "    ?");
        due("a fault at 4", y.place(), 4);
        due("the 6th", read(y, ""), 0);
        due("without", y.place(), NONE);
        due("-2", read(y, " ?"), -2);
        due("the latest that was not -2 had none", y.place(), NONE);
    }

    // ---- rules in force

    private static void ruleDays() {
        holds(18, "How many RULES are in force on a DAY; NONE: no such DAY.");
        for (int day : new int[] {-1, 120, MIN, MAX}) {
            Bounds.refused(Bounds::yard, "rules(" + day + ")", NONE, x -> x.rules(day));
            Bounds.refused(Bounds::yard, "rule(" + day + ", 0, 0)", NONE, x -> x.rule(day, 0, 0));
        }
        holds(18, "RULES of all texts whose from DAY (0 without) is not behind it");
        EngineShed x = new EngineShed();
        String[] texts = {"from 119; wear a 1;", "from 1; wear b 1;", "wear c 1;", "from 0; wear d 1;", "from 60; wear e 1;"};
        for (String s : texts) read(x, s);
        int[] days = {0, 1, 59, 60, 118, 119};
        int[] many = {2, 3, 3, 4, 4, 5};
        for (int i = 0; i < days.length; i++) due("rules(" + days[i] + ")", x.rules(days[i]), many[i]);
        for (int i = days.length - 1; i >= 0; i--) due("rules(" + days[i] + ")", x.rules(days[i]), many[i]);
        for (int day = 0; day < 120; day++) {
            due("rules(" + day + ")", x.rules(day), day == 0 ? 2 : day < 60 ? 3 : day < 119 ? 4 : 5);
        }
    }

    private static void ruleNumbers() {
        holds(19, "NONE: not so many, no such ones.");
        String[] sorts = {"bar a if 1 < 2;", "due b if 1 < 2;", "wear c 1;", "coal d 1;", "price e 1;"};
        EngineShed x = new EngineShed();
        read(x, "strike q; " + sorts[0] + sorts[1] + "strike q;" + sorts[2]);
        read(x, sorts[3] + "strike q;" + sorts[4]);
        int[][] told = {{0, 0, 1}, {1, 0, 2}, {2, 0, 4}, {3, 1, 0}, {4, 1, 2}};
        for (int k = 0; k < 5; k++) {
            for (int what = 0; what < 3; what++) due("rule(0, " + k + ", " + what + ")", x.rule(0, k, what), told[k][what]);
            due("rule(119, " + k + ", 0)", x.rule(119, k, 0), k);
        }
        int[][] no = {{0, 5, 0}, {0, -1, 0}, {0, MAX, 0}, {0, MIN, 0}, {0, 0, 3}, {0, 0, -1}, {0, 0, MAX}, {0, 0, MIN},
            {0, 4, 3}, {119, 5, 2}, {120, 0, 0}, {-1, 0, 0}};
        for (int[] a : no) {
            due("rule(" + Arrays.toString(a) + ")", x.rule(a[0], a[1], a[2]), NONE);
            Bounds.refused(Bounds::yard, "rule(" + Arrays.toString(a) + ")", NONE, y -> y.rule(a[0], a[1], a[2]));
        }
        due("rules", x.rules(0), 5);
        EngineShed y = new EngineShed();
        read(y, "from 5; wear a 1;");
        due("ahead of its day", y.rule(4, 0, 0), NONE);
        due("on its day", y.rule(5, 0, 0), 2);
        due("one more", y.rule(5, 1, 0), NONE);
        due("a day ahead again", y.rule(4, 0, 2), NONE);
    }

    private static void ruleFull() {
        holds(19, "2 its number in it (from 0 on, strikes too)");
        EngineShed x = new EngineShed();
        for (int t = 0; t < 6; t++) {
            StringBuilder s = new StringBuilder();
            for (int i = 0; i < 24; i++) s.append("price ").append(letters(24 * t + i)).append(" 1;");
            due("text " + t, read(x, s.toString()), 0);
            due("rules", x.rules(119), 24 * t + 24);
        }
        for (int k = 0; k < 144; k++) {
            due("text of " + k, x.rule(0, k, 1), k / 24);
            due("number of " + k, x.rule(0, k, 2), k % 24);
        }
        due("a 145th", x.rule(0, 144, 0), NONE);
    }

    private static void order() {
        holds(19, "by those DAYS, of one DAY by texts, as they stand");
        EngineShed x = new EngineShed();
        read(x, "from 7; wear a 1; wear b 1;");
        read(x, "from 3; wear c 1;");
        read(x, "from 7; wear d 1;");
        read(x, "wear e 1;");
        read(x, "from 3; wear f 1; wear g 1;");
        read(x, "from 0; wear h 1;");
        int[] texts = {3, 5, 1, 4, 4, 0, 0, 2};
        int[] numbers = {0, 0, 0, 0, 1, 0, 1, 0};
        for (int k = 0; k < 8; k++) {
            due("text of " + k, x.rule(7, k, 1), texts[k]);
            due("number of " + k, x.rule(7, k, 2), numbers[k]);
            due("on day 6, text of " + k, x.rule(6, k, 1), k < 5 ? texts[k] : NONE);
            due("on day 2, text of " + k, x.rule(2, k, 1), k < 2 ? texts[k] : NONE);
        }
    }

    private static void replaced() {
        holds(19, "a RULE (no strike) whose NAME one in force has takes its place");
        EngineShed x = new EngineShed();
        read(x, "bar a if 1 < 2; due b if 1 < 2; wear c 1; bar a if 2 < 1; due a if 1 < 2;");
        due("rules", x.rules(0), 3);
        due("the latest of its name", x.rule(0, 0, 2), 4);
        due("of its sort", x.rule(0, 0, 0), 1);
        due("the others", x.rule(0, 1, 2), 1);
        due("the others", x.rule(0, 2, 2), 2);
        // By days, not by texts: what is told later holds sooner, and gives way.
        read(x, "from 5; coal b 1;");
        read(x, "from 4; price b 1; price c 1;");
        int[] sorts = {1, 1, 1, 3};
        int[] days = {0, 3, 4, 5};
        int[] got = {1, 1, 4, 3};
        for (int i = 0; i < 4; i++) {
            due("b on day " + days[i], x.rule(days[i], 1, 0), got[i]);
            due("a on day " + days[i], x.rule(days[i], 0, 0), sorts[0]);
            due("rules", x.rules(days[i]), 3);
        }
        due("c on day 5", x.rule(5, 2, 0), 4);
    }

    private static void struck() {
        holds(19, "strike takes the one of its NAME away, if there is one");
        EngineShed x = new EngineShed();
        due("of none", read(x, "strike a;"), 0);
        due("rules", x.rules(0), 0);
        read(x, "strike b; wear a 1; wear b 1; wear c 1; wear d 1; strike e;");
        due("rules", x.rules(0), 4);
        read(x, "from 2; strike a; strike a; strike d;");
        due("on day 1", x.rules(1), 4);
        due("on day 2", x.rules(2), 2);
        due("b", x.rule(2, 0, 2), 2);
        due("c", x.rule(2, 1, 2), 3);
        due("no more", x.rule(2, 2, 2), NONE);
        read(x, "from 2; wear a 9; bar d if 1 < 2; strike b;");
        due("rules", x.rules(2), 3);
        due("c", x.rule(2, 0, 1), 1);
        due("what was struck comes behind", x.rule(2, 1, 1), 3);
        due("what was struck comes behind", x.rule(2, 2, 0), 0);
        due("on day 1 yet", x.rules(1), 4);
        read(x, "from 119; strike a; strike c; strike d;");
        due("day 118", x.rules(118), 3);
        due("day 119: none", x.rules(119), 0);
        due("rule of none", x.rule(119, 0, 0), NONE);
    }
}
