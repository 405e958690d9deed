import java.lang.reflect.InvocationTargetException;
import java.lang.reflect.Method;
import java.lang.reflect.Modifier;
import java.util.ArrayList;
import java.util.Arrays;
import java.util.Comparator;
import java.util.List;
import java.util.Random;

/** LANGUAGE.md, rule 7: no call throws, whatever its arguments, whatever the calls ahead, also behind the 512th. */
public final class WildTest {
    private static final int OBJECTS = 1000;
    private static final int CALLS = 1500;
    private static final int[] FAR = {Integer.MIN_VALUE, Integer.MIN_VALUE + 1, Integer.MAX_VALUE - 1, Integer.MAX_VALUE, -5, -4, -1, 0, 3, 6,
        9, 10, 12, 20, 22, 23, 30, 40, 41, 60, 61, 99, 100, 127, 128, 160, 161, 255, 256, 998, 999, 1000, 1 << 16};
    private static final String[] TEXTS = {
        "sand 0 3;sand 1 2;sand 1 5;sand 2 4;tide 1 3 5 2;rot 2;gangs 2;whale 0 9 2 4 6 1 0;whale 2 8 1 8 5 3 1;",
        "sand 0 9;sand 1 9;sand 2 9;sand 3 9;sand 0 9;sand 1 9;gangs 2;rot 9;whale 0 9 3 8 9 3 8 9 3 8;whale 3 9 3 8 9 3 8 9 3 8;",
        "sand 3 9;sand 2 1;sand 1 1;tide 0 0 0 2;law 3;whale 0 3 1 1;whale 1 2 2 2 5 3 8;",
        "whale 5 1 1 1;", "law 9;", "sand 0 9;whale 0 1 1 1 1;", ""};

    public static void main(String[] args) throws Exception {
        Random random = new Random(7);
        List<Method> face = face();
        int wrong = 0;
        for (int o = 0; o < OBJECTS; o++) {
            WeighedWhales x = new WeighedWhales();
            for (int i = 0; i < CALLS; i++) {
                wrong += random.nextInt(100) == 0 ? tell(x, TEXTS[random.nextInt(TEXTS.length)]) : call(x, face, random);
            }
        }
        System.out.println("WildTest: " + OBJECTS * CALLS + " calls, " + wrong + " have thrown");
        if (wrong != 0 || face.isEmpty()) {
            System.exit(1);
        }
    }

    /** In an order that hangs on nothing but their names, so that a run can be had again. */
    private static List<Method> face() {
        List<Method> all = new ArrayList<>();
        for (Method m : WeighedWhales.class.getDeclaredMethods()) {
            if (Modifier.isPublic(m.getModifiers())) {
                all.add(m);
            }
        }
        all.sort(Comparator.comparing(Method::getName));
        return all;
    }

    private static int tell(WeighedWhales x, String text) {
        try {
            x.end(0);
            Check.tell(x, text);
            return 0;
        } catch (RuntimeException e) {
            System.out.println("text " + text + " has thrown " + e);
            return 1;
        }
    }

    private static int call(WeighedWhales x, List<Method> face, Random random) throws IllegalAccessException {
        Method m = face.get(random.nextInt(face.size()));
        Object[] args = new Object[m.getParameterCount()];
        for (int i = 0; i < args.length; i++) {
            args[i] = argument(random);
        }
        try {
            m.invoke(x, args);
            return 0;
        } catch (InvocationTargetException e) {
            System.out.println(m.getName() + Arrays.toString(args) + " has thrown " + e.getCause());
            return 1;
        }
    }

    private static int argument(Random random) {
        switch (random.nextInt(12)) {
            case 0: return random.nextInt();
            case 1:
            case 2:
            case 3: return FAR[random.nextInt(FAR.length)];
            default: return random.nextInt(24) - 2;
        }
    }
}
