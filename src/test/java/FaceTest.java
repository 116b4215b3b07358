import java.lang.reflect.Constructor;
import java.lang.reflect.Field;
import java.lang.reflect.Method;
import java.lang.reflect.Modifier;
import java.util.Set;
import java.util.TreeSet;

/** The public face is the document's, with nothing beside it, and no private method bears a public name. */
public final class FaceTest {
    private static final String[] FACE = {
        "int feed(int,int,int,int,int)", "int cabinet(int)", "int fault()", "int count(int)",
        "int head(int,int)", "int seat(int)", "int days(int)", "boolean prop(int)", "int cast(int,int)",
        "int lick(int,int)", "int turn(int,int)", "boolean change(int,int)", "int undo()",
        "int then(int,int,int)", "int later(int,int)", "int falls(int)", "int down(int)", "int last()",
        "int tips(int)", "int votes(int,int)", "int decisive(int)", "int toTurn(int)", "int brings(int,int)",
        "int agree(int,int)", "int party(int,int)", "int rooms(int)", "int better()", "int heaviest(int)",
        "int melted(int)", "int hottest(int)", "int worst(int,int)", "int toCast(int,int)", "int margin(int)",
        "int agreed()", "int factions()", "int wins(int)", "int middle()", "int neighbour(int,int)",
        "int ties()", "int leaning()", "int between(int,int)", "int see(int,int,boolean)", "int leant(int)",
        "int look(int)", "void forget()", "int game(int,int,int,int)", "int years(int,int,int)",
        "void image()", "boolean restore()"
    };

    private static int wrong = 0;

    private static void check(boolean holds, String what) {
        if (!holds) {
            wrong++;
            System.out.println(what);
        }
    }

    private static String signature(Method method) {
        StringBuilder text = new StringBuilder(method.getReturnType().getName());
        text.append(' ').append(method.getName()).append('(');
        for (Class<?> type : method.getParameterTypes()) {
            text.append(text.charAt(text.length() - 1) == '(' ? "" : ",").append(type.getName());
        }
        return text.append(')').toString();
    }

    private static void checkPrivateNames(Class<?> inside, Set<String> names) {
        for (Method method : inside.getDeclaredMethods()) {
            check(!names.contains(method.getName()), inside + " has a method of a public name: " + method.getName());
        }
        check(Modifier.isStatic(inside.getModifiers()), inside + " is not static");
        check(!Modifier.isPublic(inside.getModifiers()), inside + " is public");
        check(!Modifier.isProtected(inside.getModifiers()), inside + " is protected");
        for (Field field : inside.getDeclaredFields()) {
            boolean shared = Modifier.isStatic(field.getModifiers());
            check(!shared || Modifier.isFinal(field.getModifiers()), field + " is static and not final");
        }
    }

    public static void main(String[] args) throws Exception {
        Class<?> type = AlmondCabinet.class;
        check(Modifier.isPublic(type.getModifiers()) && Modifier.isFinal(type.getModifiers()), "public and final");
        Set<String> due = new TreeSet<>(Set.of(FACE));
        Set<String> names = new TreeSet<>();
        for (Method method : type.getDeclaredMethods()) {
            if (Modifier.isPublic(method.getModifiers())) {
                check(due.remove(signature(method)), "not of the face: " + signature(method));
                check(!Modifier.isStatic(method.getModifiers()), "static: " + signature(method));
                names.add(method.getName());
            }
        }
        check(due.isEmpty(), "missing: " + due);
        for (Method method : type.getDeclaredMethods()) {
            int marks = method.getModifiers();
            check(Modifier.isPublic(marks) || Modifier.isPrivate(marks), "neither public nor private: " + method);
            check(Modifier.isPublic(marks) || !names.contains(method.getName()), "a public name: " + method);
        }
        for (Field field : type.getDeclaredFields()) {
            boolean none = field.getName().equals("NONE");
            check(none || Modifier.isPrivate(field.getModifiers()), "not private: " + field);
        }
        check(type.getField("NONE").getInt(null) == -1, "NONE");
        Constructor<?>[] made = type.getDeclaredConstructors();
        check(made.length == 1 && made[0].getParameterCount() == 0 && Modifier.isPublic(made[0].getModifiers()),
                "one public constructor without parameters");
        for (Class<?> inside : type.getDeclaredClasses()) {
            checkPrivateNames(inside, names);
        }
        System.out.println(wrong == 0 ? "the face is the document's" : wrong + " wrong");
        System.exit(wrong == 0 ? 0 : 1);
    }
}
