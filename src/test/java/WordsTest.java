import java.io.IOException;
import java.nio.file.Files;
import java.nio.file.Path;
import java.util.ArrayList;
import java.util.List;
import java.util.TreeMap;
import java.util.Map;
import java.util.regex.Matcher;
import java.util.regex.Pattern;
import java.util.stream.Stream;

/**
 * No sentence of the document is left without a test: its words, from "What it is" to the last promise, stand in the
 * holds(..) of some test, those of a promise in one of that promise. (The face is LanguageTest's; headings are none.)
 */
public final class WordsTest {
    private static final String TEXT = "\"(?:[^\"\\\\]|\\\\.)*\"";
    private static final Pattern QUOTE = Pattern.compile("(?<!void )\\bholds\\((\\d+),\\s*(" + TEXT + "(?:\\s*\\+\\s*" + TEXT + ")*)\\)");
    private static final Pattern PROMISE = Pattern.compile("^## Promise (\\d+): ");
    // What tells nothing itself: headings, the fences and the parts' numbers, the signature of a promise's call.
    private static final Pattern FRAME = Pattern.compile("^## (What it is|Terms|Promise [^`]*`[^`]*`:)|```(text)?|==== [IVX]+\\.");

    private static final Map<Integer, List<String>> HELD = new TreeMap<>();
    private static int wrong = 0;

    public static void main(String[] args) throws IOException {
        gatherHeld();
        Path doc = Path.of("../shared/DOC.md");
        if (Files.exists(doc)) checkSections(Files.readString(doc));
        else System.out.println("../shared/DOC.md is not there: nothing was looked up");
        for (int promise = 1; promise <= 42; promise++) {
            if (!HELD.containsKey(promise)) fault("promise " + promise + " has no words of a test");
        }
        System.out.println(wrong == 0 ? "each sentence has a test" : wrong + " places have none");
        if (wrong != 0) System.exit(1);
    }

    private static void fault(String what) {
        wrong++;
        System.out.println(what);
    }

    private static void gatherHeld() throws IOException {
        List<Path> files = new ArrayList<>();
        try (Stream<Path> all = Files.list(Path.of("src/test/java"))) {
            all.filter(f -> f.toString().endsWith("Test.java")).sorted().forEach(files::add);
        }
        for (Path file : files) {
            Matcher m = QUOTE.matcher(Files.readString(file));
            while (m.find()) {
                StringBuilder words = new StringBuilder();
                Matcher part = Pattern.compile(TEXT).matcher(m.group(2));
                while (part.find()) words.append(part.group(), 1, part.group().length() - 1);
                HELD.computeIfAbsent(Integer.parseInt(m.group(1)), k -> new ArrayList<>()).add(spaced(words.toString()));
            }
        }
    }

    private static String spaced(String s) {
        return s.replaceAll("\\s+", " ");
    }

    private static void checkSections(String doc) {
        int found = 0;
        for (String section : doc.split("(?m)^(?=## )")) {
            Matcher m = PROMISE.matcher(section);
            boolean promise = m.find();
            if (promise) {
                found++;
                check("promise " + m.group(1), section, HELD.getOrDefault(Integer.parseInt(m.group(1)), List.of()));
            } else if (section.startsWith("## What it is") || section.startsWith("## Terms")) {
                List<String> all = new ArrayList<>();
                for (List<String> some : HELD.values()) all.addAll(some);
                check(section.startsWith("## Terms") ? "Terms" : "What it is", section, all);
            }
        }
        if (found != 42) fault("the document has promises: " + found);
    }

    private static void check(String where, String section, List<String> held) {
        String body = spaced(section);
        boolean[] covered = new boolean[body.length()];
        for (String words : held) {
            for (int at = body.indexOf(words); at >= 0; at = body.indexOf(words, at + 1)) {
                java.util.Arrays.fill(covered, at, at + words.length(), true);
            }
        }
        Matcher frame = FRAME.matcher(body);
        while (frame.find()) java.util.Arrays.fill(covered, frame.start(), frame.end(), true);
        StringBuilder open = new StringBuilder();
        for (int i = 0; i <= body.length(); i++) {
            if (i < body.length() && !covered[i]) {
                open.append(body.charAt(i));
            } else if (open.length() > 0) {
                if (open.toString().matches(".*[A-Za-z0-9].*")) fault(where + ": no test holds: " + open.toString().strip());
                open.setLength(0);
            }
        }
    }
}
