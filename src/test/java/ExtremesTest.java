import java.lang.reflect.InvocationTargetException;
import java.lang.reflect.Method;
import java.lang.reflect.Modifier;
import java.util.ArrayList;
import java.util.Comparator;
import java.util.List;
import java.util.Random;

/** No call throws, for any arguments in any state. */
public final class ExtremesTest {
    private static final int[] VALUES = {Integer.MIN_VALUE, Integer.MIN_VALUE + 1, -1000000, -2, -1, 0, 0, 0, 1, 1, 2, 2, 3,
        4, 5, 6, 7, 8, 9, 12, 24, 31, 32, 63, 119, 120, 179, 180, 181, 255, 256, 511, 4095, 4096, 9999, 10000,
        Integer.MAX_VALUE - 19, Integer.MAX_VALUE};
    private static final String[] BITS = {"bar a if", "due b if", "wear c 1;", "price", "d day/0;", "1<2;", "not ", "((((",
        "))", "from 3;", "1+load", "strike ", "e;", "==", "coal f (1);"};

    public static void main(String[] args) throws IllegalAccessException {
        List<Method> face = new ArrayList<>();
        for (Method m : EngineShed.class.getDeclaredMethods()) if (Modifier.isPublic(m.getModifiers())) face.add(m);
        face.sort(Comparator.comparing(Method::getName));
        Random random = new Random(7);
        int wrong = 0;
        for (int run = 0; run < 400; run++) {
            EngineShed x = new EngineShed();
            for (int i = 0; i < 512 && wrong < 5; i++) {
                Method m = face.get(random.nextInt(face.size()));
                Object[] with = arguments(m, random);
                try {
                    m.invoke(x, with);
                } catch (InvocationTargetException e) {
                    wrong++;
                    System.out.println(m.getName() + java.util.Arrays.toString(with) + " threw " + e.getCause());
                }
            }
        }
        System.out.println(wrong == 0 ? "nothing was thrown" : wrong + " calls threw");
        if (wrong != 0) System.exit(1);
    }

    private static Object[] arguments(Method m, Random random) {
        Class<?>[] types = m.getParameterTypes();
        Object[] with = new Object[types.length];
        String text = BITS[random.nextInt(BITS.length)] + BITS[random.nextInt(BITS.length)] + " ".repeat(20);
        boolean small = random.nextInt(4) > 0;
        for (int i = 0; i < types.length; i++) {
            if (types[i] == boolean.class) with[i] = random.nextBoolean();
            else if (m.getName().equals("feed")) with[i] = word(text, 4 * i);
            else with[i] = small ? random.nextInt(4) : VALUES[random.nextInt(VALUES.length)];
        }
        return with;
    }

    private static int word(String s, int at) {
        return s.charAt(at) << 24 | s.charAt(at + 1) << 16 | s.charAt(at + 2) << 8 | s.charAt(at + 3);
    }
}
