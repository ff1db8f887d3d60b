import java.io.File;
import java.io.IOException;
import java.nio.file.Files;
import java.nio.file.Path;
import java.util.regex.Matcher;
import java.util.regex.Pattern;

/** The calls of README.md answer what the comments behind them say: they are compiled and made as they stand there. */
public final class ReadmeTest {
    private static final Pattern BLOCK = Pattern.compile("(?s)```java\n(.*?)```");
    private static final Pattern TOLD = Pattern.compile("^(?:int (\\w+) = )?(.*); // (-?\\w+)$");
    private static final String NAME = "ReadmeCalls";

    public static void main(String[] args) throws IOException, InterruptedException {
        StringBuilder helpers = new StringBuilder();
        StringBuilder calls = new StringBuilder();
        Matcher block = BLOCK.matcher(Files.readString(Path.of("README.md")));
        while (block.find()) {
            if (block.group(1).startsWith("static ")) helpers.append(block.group(1));
            else for (String line : block.group(1).split("\n")) calls.append(checked(line)).append("\n");
        }
        int failed = calls.indexOf("due(") < 0 ? 1 : run(program(helpers.toString(), calls.toString()));
        System.out.println(failed == 0 ? "README.md tells what is so" : "README.md's calls could not be made, or answer otherwise");
        if (failed != 0) System.exit(1);
    }

    /** A call with its answer behind it becomes a check of that. */
    private static String checked(String line) {
        Matcher m = TOLD.matcher(line);
        if (!m.matches()) return line;
        String call = m.group(2);
        String check = "due(\"" + call + "\", " + (m.group(1) == null ? call : m.group(1)) + ", " + m.group(3) + ");";
        return m.group(1) == null ? check : "int " + m.group(1) + " = " + call + "; " + check;
    }

    private static String program(String helpers, String calls) {
        return "public final class " + NAME + " {\n static int wrong = 0;\n"
            + "static void due(String call, Object got, Object want) {\n"
            + "if (!got.equals(want)) { wrong++; System.out.println(call + \" answered \" + got + \", README.md says \" + want); }\n}\n"
            + helpers + "public static void main(String[] args) {\n" + calls + "if (wrong > 0) System.exit(1);\n}\n}\n";
    }

    private static int command(String... words) throws IOException, InterruptedException {
        return new ProcessBuilder(words).inheritIO().start().waitFor();
    }

    private static int run(String source) throws IOException, InterruptedException {
        Path room = Files.createTempDirectory("readme");
        Path file = room.resolve(NAME + ".java");
        Files.writeString(file, source);
        try {
            int failed = command("javac", "-d", room.toString(), "src/main/java/EngineShed.java", file.toString());
            return failed != 0 ? failed : command("java", "-cp", room.toString(), NAME);
        } finally {
            for (File f : room.toFile().listFiles()) f.delete();
            room.toFile().delete();
        }
    }
}
