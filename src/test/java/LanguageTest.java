import java.io.IOException;
import java.lang.reflect.Constructor;
import java.lang.reflect.Field;
import java.lang.reflect.Method;
import java.lang.reflect.Modifier;
import java.nio.file.Files;
import java.nio.file.Path;
import java.util.ArrayList;
import java.util.List;
import java.util.Set;
import java.util.TreeSet;
import java.util.regex.Matcher;
import java.util.regex.Pattern;

/** What can be seen of LANGUAGE.md's rules and of the document's face from outside. */
public final class LanguageTest {
    private static final String FACE = "feed(int,int,int,int,int):int back(int):int read():int place():int shed():int "
        + "way(int,int,int):boolean engine(int,int):int man(int):int turn(int,int,int,int,int,int,int,boolean):int "
        + "run(int,int,int,int):int mile(int,int):int fact(int,int,int):int shops(int,int,int):int "
        + "fails(int,int,int):int lent(int,int,int):int coals(int,int,int):int rules(int):int rule(int,int,int):int "
        + "state(int,int,int,int):int isVoid(int,int):int held(int,int,int):int bar(int,int):int due(int,int,int):int "
        + "beyond(int,int,int):int help(int,int):int coal(int,int,int):int owes(int,int,int,int,int):int "
        + "best(int,int,int):int given(int):int lack():int lines(boolean,int):int clear():void roads(int):int "
        + "road(int):int may(int,int,boolean):boolean months(int,int,int,int,int):int month(int):int causes(int):int "
        + "cause(int,int):int turned(int,int):int count(int):int";
    private static final String[] BANNED = {"throw", "throws", "try", "catch", "synchronized", "assert", "lambda",
        "Exception", "Object", "Random", "Thread", "System.out", "System.nanoTime", "hashCode", "equals(", "->", "::",
        "Exact", "protected", "Iterator", "Map", "@"};

    private static int wrong = 0;

    private static void check(boolean fine, String what) {
        if (!fine) {
            wrong++;
            System.out.println(what);
        }
    }

    public static void main(String[] args) throws IOException {
        checkFace();
        checkMembers(EngineShed.class);
        String source = Files.readString(Path.of("src/main/java/EngineShed.java"));
        checkSource(source);
        checkLengths(source);
        System.out.println(wrong == 0 ? "the language is kept" : wrong + " rules are broken");
        if (wrong != 0) System.exit(1);
    }

    private static void checkFace() {
        Set<String> has = new TreeSet<>();
        for (Method m : EngineShed.class.getDeclaredMethods()) {
            if (!Modifier.isPrivate(m.getModifiers())) has.add(signature(m));
        }
        check(has.equals(new TreeSet<>(List.of(FACE.split(" ")))), "the face is " + has);
        int modifiers = EngineShed.class.getModifiers();
        check(Modifier.isPublic(modifiers) && Modifier.isFinal(modifiers), "the class is not public and final");
        for (Field f : EngineShed.class.getDeclaredFields()) {
            check(Modifier.isPrivate(f.getModifiers()) || f.getName().equals("NONE"), "a field is to be seen: " + f);
        }
        Constructor<?>[] makers = EngineShed.class.getDeclaredConstructors();
        check(makers.length == 1 && makers[0].getParameterCount() == 0, "constructors");
    }

    private static String signature(Method m) {
        List<String> types = new ArrayList<>();
        for (Class<?> c : m.getParameterTypes()) types.add(c.getSimpleName());
        return m.getName() + "(" + String.join(",", types) + "):" + m.getReturnType().getSimpleName();
    }

    private static void checkMembers(Class<?> top) {
        Set<String> open = new TreeSet<>();
        for (Method m : top.getDeclaredMethods()) if (Modifier.isPublic(m.getModifiers())) open.add(m.getName());
        List<Class<?>> all = new ArrayList<>(List.of(top.getDeclaredClasses()));
        check(all.size() <= 12, "classes: " + all.size());
        all.add(top);
        for (Class<?> c : all) {
            check(c == top || Modifier.isStatic(c.getModifiers()), c + " is not static");
            int own = 0;
            for (Field f : c.getDeclaredFields()) {
                boolean isStatic = Modifier.isStatic(f.getModifiers());
                check(!isStatic || Modifier.isFinal(f.getModifiers()), f + " is static and not final");
                own += isStatic ? 0 : 1;
            }
            check(own <= 20, c + " has fields: " + own);
            for (Method m : c.getDeclaredMethods()) {
                boolean face = c == top && Modifier.isPublic(m.getModifiers());
                check(face || m.getParameterCount() <= 7, m + " has too many parameters");
                check(face || !open.contains(m.getName()), m + " bears the name of a public one");
            }
        }
    }

    private static void checkSource(String source) {
        String code = source.replaceAll("(?s)/\\*.*?\\*/", "").replaceAll("//[^\n]*", "").replaceAll("\"[^\"]*\"", "\"\"");
        for (String word : BANNED) {
            boolean letters = word.matches("[A-Za-z]+");
            Matcher m = Pattern.compile(letters ? "\\b" + word + "\\b" : Pattern.quote(word)).matcher(code);
            check(!m.find(), "the source has " + word);
        }
        for (String line : code.split("\n")) {
            if (line.startsWith("import")) check(line.equals("import java.util.Arrays;"), line);
            check(!line.startsWith("package"), line);
            check(!line.contains("\" +") && !line.contains("+ \""), "texts are joined by +: " + line);
        }
        Set<String> library = new TreeSet<>();
        Matcher m = Pattern.compile("\\b(Integer|Long|Math|Arrays|System|String)\\.(\\w+)").matcher(code);
        while (m.find()) library.add(m.group());
        library.removeAll(Set.of("Integer.bitCount", "Math.min", "Math.max", "Arrays.fill", "System.arraycopy"));
        check(library.isEmpty(), "of the library: " + library);
        for (int i = 0; i < source.length(); i++) {
            check(source.charAt(i) < 128, "a sign beyond 127 at " + i);
        }
    }

    /** A method opens with a brace at the end of a line and ends with one at the same depth. */
    private static void checkLengths(String source) {
        String[] lines = source.split("\n");
        Pattern head = Pattern.compile("^( {4}| {8})(public |private |static )*[\\w\\[\\]]+ \\w+\\([^)]*\\) \\{$");
        for (int i = 0; i < lines.length; i++) {
            Matcher m = head.matcher(lines[i]);
            if (!m.matches()) continue;
            int end = i;
            while (!lines[end].equals(m.group(1) + "}")) end++;
            check(end - i < 60, "a method of " + (end - i + 1) + " lines at " + (i + 1));
        }
    }
}
