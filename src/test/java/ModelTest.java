import java.lang.reflect.InvocationTargetException;
import java.lang.reflect.Method;
import java.util.Arrays;
import java.util.HashMap;
import java.util.Map;
import java.util.Random;

/**
 * The class and the model (src/test/support/Model.java) get the same texts and the same calls; each
 * answer, and each exception, must be the same. A run that differs is told from its first call on.
 */
public final class ModelTest {
    private static final int RUNS = 1500;
    private static final int CALLS = 150;
    private static final int MOST_TOLD = 5;

    /** Of each call the most of each argument that is in its bounds; h: a head, s: a side, b: a test, r: any. */
    private static final String[] CALLS_ASKED = {
        "count 11", "head h 6", "seat h", "then h 40 2", "later 40 1", "falls h", "down 40", "last", "tips 5",
        "votes 5 1", "decisive 5", "toTurn 5", "brings h s", "agree h h", "party h 6", "rooms 1", "better",
        "heaviest 40", "melted 40", "hottest 40", "worst s 1", "toCast h 40", "margin 5", "agreed", "factions",
        "wins h", "middle", "neighbour h s", "ties", "leaning", "between h h", "leant 2", "look 1", "game h h 5 1",
        "years r 40 2", "fault"
    };
    private static final String[] CALLS_DONE = {
        "days 20", "days 1", "days 2", "days 2", "prop h", "cast h 50", "cast h 50", "lick h 9", "turn h 5", "turn h 5",
        "change h h", "change h h", "undo", "see 5 20 b", "see 5 4 b", "forget", "image", "restore"
    };
    private static final String[] PIECES = {
        "head", "marbled", "heat", "melts", "leans", "or", "and", "not", "sugar", "almond", "lean", "day", "left",
        "right", "x", "0", "5", "63", "64", "99", "100", "9999", "12345", "00001", ";", "(", ")", "+", "-", "*", "/",
        "<", "=", " ", "\n", "#", "A", "\u00e9", "not not not not not not not", "((((((", ")))))))",
        "heat 3;", "melts 1;", "leans 2;"
    };
    private static final String[] VALUES = {"sugar", "almond", "heat", "lean", "day", "left", "right"};

    private final Random random;
    private final Map<String, Method> face = new HashMap<>();
    private final Map<String, Method> modelled = new HashMap<>();
    private int calls = 0;
    private int wrong = 0;

    private ModelTest(long seed) {
        random = new Random(seed);
        for (Method method : Model.class.getDeclaredMethods()) {
            modelled.put(method.getName() + Arrays.toString(method.getParameterTypes()), method);
        }
        for (Method method : AlmondCabinet.class.getDeclaredMethods()) {
            if (java.lang.reflect.Modifier.isPublic(method.getModifiers())) {
                face.put(method.getName(), method);
            }
        }
    }

    // ---- texts

    private String expr(int depth, int values) {
        switch (random.nextInt(depth <= 0 ? 2 : 9)) {
            case 0:
                return String.valueOf(random.nextInt(random.nextInt(4) == 0 ? 10000 : 10));
            case 1:
                return VALUES[random.nextInt(values)];
            case 2:
                return "(" + expr(depth - 1, values) + ")";
            case 3:
                return expr(depth - 1, values) + (random.nextBoolean() ? " or " : " and ") + expr(depth - 1, values);
            case 4:
                return "(not " + expr(depth - 1, values) + ")";
            case 5:
                String sign = random.nextBoolean() ? "<" : "=";
                return "(" + expr(depth - 1, values) + sign + expr(depth - 1, values) + ")";
            default:
                return expr(depth - 1, values) + " +-*/".charAt(1 + random.nextInt(4)) + expr(depth - 1, values);
        }
    }

    private String leansExpr() {
        String[] lively = {"3", "0-3", "almond-4", "(left<right)*6-3", "2-almond/2", "(day/3-day/6*2)*4-2",
            "(almond=0)*3+(almond=1)*2-(almond=2)*3", "(sugar<40)*3-1", "lean/2+(lean=0)", "(lean<5)*2-(4<lean)",
            "(lean<5)*2+(lean<8)+(almond=0)*(9<day)", "0-((0-5)<lean)*2-((0-8)<lean)-(almond=1)*(6<day)"};
        return random.nextBoolean() ? lively[random.nextInt(lively.length)] : expr(random.nextInt(5), 7);
    }

    private String soundText() {
        StringBuilder text = new StringBuilder();
        int heads = random.nextInt(4) == 0 ? random.nextInt(9) : 3 + random.nextInt(6);
        for (int head = 0; head < heads; head++) {
            boolean marbled = random.nextInt(3) == 0;
            text.append(marbled ? "marbled " : "head ").append(1 + random.nextInt(99)).append(' ');
            text.append(random.nextInt(random.nextBoolean() ? 3 : 10)).append(' ').append(random.nextInt(64));
            text.append(marbled ? " " + random.nextInt(64) : "").append(';');
        }
        if (random.nextInt(3) > 0) {
            text.append("heat");
            for (int k = random.nextInt(8); k >= 0; k--) {
                text.append(' ').append(random.nextInt(10));
            }
            text.append(";\n");
        }
        if (random.nextBoolean()) {
            boolean slow = random.nextInt(3) > 0;
            text.append("melts ").append(slow ? "(day/6*6=day)*(9-almond)" : expr(random.nextInt(5), 5)).append(';');
        }
        if (random.nextInt(4) > 0) {
            text.append("leans ").append(leansExpr()).append(" ; ");
        }
        return text.toString();
    }

    private String spoilt(String text) {
        if (random.nextInt(5) == 0) {
            return text + PIECES[PIECES.length - 1 - random.nextInt(3)] + PIECES[random.nextInt(PIECES.length)];
        }
        StringBuilder spoilt = new StringBuilder(text);
        for (int k = random.nextInt(3); k >= 0; k--) {
            int at = random.nextInt(spoilt.length() + 1);
            if (random.nextInt(3) == 0) {
                spoilt.delete(at, Math.min(spoilt.length(), at + 1 + random.nextInt(4)));
            } else {
                spoilt.insert(at, PIECES[random.nextInt(PIECES.length)]);
            }
        }
        return spoilt.toString();
    }

    /** Pieces behind 'leans', so that a walk goes down the grammar with whatever may stand there. */
    private String heap() {
        StringBuilder text = new StringBuilder(random.nextBoolean() ? "leans " : "melts ");
        for (int k = random.nextInt(30); k >= 0; k--) {
            text.append(PIECES[5 + random.nextInt(PIECES.length - 5)]).append(random.nextBoolean() ? " " : "");
        }
        return text.append(';').toString();
    }

    private String anyText() {
        return random.nextBoolean() ? soundText() : random.nextInt(3) > 0 ? spoilt(soundText()) : heap();
    }

    // ---- calls

    private static Object answer(Object of, Method method, Object[] given) throws IllegalAccessException {
        try {
            return method.invoke(of, given);
        } catch (InvocationTargetException e) {
            return "throws." + e.getCause().getClass().getSimpleName();
        }
    }

    private int number(String most, int heads) {
        if (most.equals("r")) {
            return random.nextInt();
        }
        if (most.equals("b")) {
            return random.nextInt(2);
        }
        if (random.nextInt(40) == 0) {
            int[] edges = {-1, -2, 9, 12, 41, 51, 1000, Integer.MIN_VALUE, Integer.MAX_VALUE};
            return edges[random.nextInt(edges.length)];
        }
        if (most.equals("s")) {
            return random.nextInt(12) == 0 ? 0 : random.nextBoolean() ? 1 : -1;
        }
        int inBounds = most.equals("h") ? heads : Integer.parseInt(most) + 1;
        return random.nextInt(Math.max(1, inBounds + (random.nextInt(20) == 0 ? 1 : 0)));
    }

    /** Puts one call to both: false, if the answers differ. */
    private boolean put(AlmondCabinet x, Model model, StringBuilder told, String name, int... numbers)
            throws IllegalAccessException {
        Method method = face.get(name);
        Class<?>[] types = method.getParameterTypes();
        Object[] given = new Object[types.length];
        for (int k = 0; k < given.length; k++) {
            given[k] = types[k] == boolean.class ? (Object) (numbers[k] == 1) : (Object) numbers[k];
        }
        calls++;
        Object got = answer(x, method, given);
        Object want = answer(model, modelled.get(name + Arrays.toString(types)), given);
        told.append("  ").append(name).append(Arrays.toString(given)).append(" answered ").append(got).append('\n');
        if (String.valueOf(got).equals(String.valueOf(want))) {
            return true;
        }
        wrong++;
        if (wrong <= MOST_TOLD) {
            System.out.println("a run that differs:\n" + told + "  the model: " + want);
        }
        return false;
    }

    private boolean putText(AlmondCabinet x, Model model, StringBuilder told, String text)
            throws IllegalAccessException {
        told.append("  text: ").append(text).append('\n');
        for (int at = 0; at < text.length(); at += 20) {
            int[] five = new int[5];
            for (int k = 0; k < 20; k++) {
                five[k / 4] = five[k / 4] << 8 | (at + k < text.length() ? text.charAt(at + k) : ' ');
            }
            if (!put(x, model, told, "feed", five)) {
                return false;
            }
        }
        int n = random.nextInt(12) == 0 ? random.nextInt(text.length() + 30) - 5 : Math.min(700, text.length());
        return put(x, model, told, "cabinet", n) && put(x, model, told, "fault");
    }

    private boolean run() throws IllegalAccessException {
        AlmondCabinet x = new AlmondCabinet();
        Model model = new Model();
        StringBuilder told = new StringBuilder();
        boolean same = putText(x, model, told, random.nextInt(8) == 0 ? anyText() : soundText());
        int acts = 1 + random.nextInt(9);
        for (int call = 0; call < CALLS && same; call++) {
            if (random.nextInt(80) == 0) {
                same = putText(x, model, told, anyText());
                continue;
            }
            String[] some = random.nextInt(10) < acts ? CALLS_DONE : CALLS_ASKED;
            String[] words = some[random.nextInt(some.length)].split(" ");
            int[] numbers = new int[words.length - 1];
            for (int k = 0; k < numbers.length; k++) {
                numbers[k] = number(words[k + 1], x.count(0));
            }
            same = put(x, model, told, words[0], numbers);
        }
        return same;
    }

    public static void main(String[] args) throws IllegalAccessException {
        ModelTest test = new ModelTest(args.length > 0 ? Long.parseLong(args[0]) : 50);
        int runs = args.length > 1 ? Integer.parseInt(args[1]) : RUNS;
        int same = 0;
        for (int run = 0; run < runs; run++) {
            same += test.run() ? 1 : 0;
        }
        System.out.println(test.calls + " calls in " + runs + " runs, " + (runs - same) + " runs that differ");
        System.exit(same == runs ? 0 : 1);
    }
}
