import java.io.IOException;
import java.lang.reflect.InvocationTargetException;
import java.lang.reflect.Method;
import java.lang.reflect.Modifier;
import java.nio.file.Files;
import java.nio.file.Path;
import java.util.HashMap;
import java.util.List;
import java.util.Map;

/**
 * Plays src/test/data/runs.txt: a line is a call, its arguments and, behind '>', its answer. The
 * answers come from a second program, written from the document alone in another language.
 */
public final class RecordedRunsTest {
    private static final Path RUNS = Path.of("src", "test", "data", "runs.txt");

    private static String answer(AlmondCabinet x, Method method, String[] words) throws IllegalAccessException {
        Class<?>[] types = method.getParameterTypes();
        Object[] given = new Object[types.length];
        for (int k = 0; k < given.length; k++) {
            int number = Integer.parseInt(words[k + 1]);
            given[k] = types[k] == boolean.class ? (Object) (number == 1) : (Object) number;
        }
        try {
            Object got = method.invoke(x, given);
            if (got == null) {
                return "0";
            }
            return got instanceof Boolean ? ((Boolean) got ? "1" : "0") : got.toString();
        } catch (InvocationTargetException e) {
            return "throws." + e.getCause().getClass().getSimpleName();
        }
    }

    public static void main(String[] args) throws IOException, IllegalAccessException {
        Map<String, Method> face = new HashMap<>();
        for (Method method : AlmondCabinet.class.getDeclaredMethods()) {
            if (Modifier.isPublic(method.getModifiers())) {
                face.put(method.getName(), method);
            }
        }
        List<String> lines = Files.readAllLines(RUNS);
        AlmondCabinet x = new AlmondCabinet();
        int calls = 0;
        int wrong = 0;
        for (int k = 0; k < lines.size(); k++) {
            if (lines.get(k).equals("new")) {
                x = new AlmondCabinet();
                continue;
            }
            String[] halves = lines.get(k).split(" > ");
            String[] words = halves[0].split(" ");
            String got = answer(x, face.get(words[0]), words);
            calls++;
            if (!got.equals(halves[1])) {
                wrong++;
                System.out.println("line " + (k + 1) + ": " + halves[0] + " answered " + got + ", due is " + halves[1]);
            }
        }
        if (calls == 0) {
            wrong++;
            System.out.println("no recorded calls");
        }
        System.out.println(calls + " recorded calls, " + wrong + " wrong");
        System.exit(wrong == 0 ? 0 : 1);
    }
}
