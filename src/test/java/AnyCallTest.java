import java.lang.reflect.InvocationTargetException;
import java.lang.reflect.Method;
import java.lang.reflect.Modifier;
import java.util.ArrayList;
import java.util.Arrays;
import java.util.Comparator;
import java.util.List;
import java.util.Random;

/** Any calls with any arguments, in any state: only the exceptions that a method declares come out. */
public final class AnyCallTest {
    private static final String[] PIECES = {
        "head 50 3 21;", "marbled 60 4 33 12;", "head 9 0 63;", "heat 9 0 5;", "heat 8;", "melts heat/3;",
        "melts 0;", "leans almond-3;", "leans (left<right)*3-lean/2;", "leans 2-day/4;", "head 99 9 7;",
        "marbled 1 0 0 63;", "leans 0/0-9999*9999*9999/(0-1);", "melts (((((1)))));", "head", "((((((((", "\n", "x",
        "not not not not not not not", "12345", "leans left+", "melts right;"
    };
    private static final int[] EDGES = {
        Integer.MIN_VALUE, Integer.MAX_VALUE, -1, 0, 1, 2, 5, 6, 7, 8, 9, 11, 12, 20, 21, 40, 41, 50, 51, 700, 701
    };

    private static Object argument(Random random, Class<?> type) {
        if (type == boolean.class) {
            return random.nextBoolean();
        }
        int pick = random.nextInt(10);
        if (pick < 7) {
            return random.nextInt(6);
        }
        return pick < 9 ? EDGES[random.nextInt(EDGES.length)] : random.nextInt();
    }

    private static void feedText(AlmondCabinet x, Random random) {
        StringBuilder text = new StringBuilder();
        int pieces = random.nextInt(14);
        for (int k = 0; k < pieces; k++) {
            boolean sound = random.nextInt(12) > 0;
            text.append(PIECES[random.nextInt(sound ? 12 : PIECES.length)]);
        }
        int length = Math.min(700, text.length());
        text.append(" ".repeat(20));
        for (int at = 0; at < length; at += 20) {
            int[] five = new int[5];
            for (int k = 0; k < 20; k++) {
                five[k / 4] = five[k / 4] << 8 | text.charAt(at + k);
            }
            x.feed(five[0], five[1], five[2], five[3], five[4]);
        }
        x.cabinet(Math.min(x.count(8), length));
    }

    private static boolean declares(Method method, Throwable thrown) {
        return Arrays.asList(method.getExceptionTypes()).contains(thrown.getClass());
    }

    public static void main(String[] args) throws Exception {
        List<Method> face = new ArrayList<>();
        for (Method method : AlmondCabinet.class.getDeclaredMethods()) {
            if (Modifier.isPublic(method.getModifiers())) {
                face.add(method);
            }
        }
        face.sort(Comparator.comparing(Method::getName));
        Random random = new Random(20261118);
        int wrong = 0;
        for (int run = 0; run < 300; run++) {
            AlmondCabinet x = new AlmondCabinet();
            for (int call = 0; call < 300; call++) {
                if (call % 60 == 0) {
                    feedText(x, random);
                }
                Method method = face.get(random.nextInt(face.size()));
                Object[] given = new Object[method.getParameterCount()];
                for (int k = 0; k < given.length; k++) {
                    given[k] = argument(random, method.getParameterTypes()[k]);
                }
                try {
                    method.invoke(x, given);
                } catch (InvocationTargetException e) {
                    if (!declares(method, e.getCause())) {
                        wrong++;
                        System.out.println("run " + run + ": " + method.getName() + Arrays.toString(given) + " threw " + e.getCause());
                    }
                }
            }
        }
        System.out.println(wrong == 0 ? "nothing but what is declared is thrown" : wrong + " wrong");
        System.exit(wrong == 0 ? 0 : 1);
    }
}
