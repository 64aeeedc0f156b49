import java.lang.reflect.Constructor;
import java.lang.reflect.Field;
import java.lang.reflect.Method;
import java.lang.reflect.Modifier;
import java.util.Arrays;
import java.util.HashSet;
import java.util.Set;
import java.util.TreeSet;

/** The public face: just the constants, the constructor and the methods of the document. */
public final class FaceTest {
    private static final Check check = new Check();

    private static final String[] METHODS = {
        "int write(int)", "int wipe()", "int fault()", "int open()", "int about(int)", "int contract(int,int)",
        "int put(int)", "int turnVoid(int)", "int readOtherwise(int)", "int undo()", "int broken(int)",
        "int best(int,int)", "int quarrel()", "int drop()", "int see(int,int)", "int unsee()", "int meant(int)",
        "int ofAge(int,int)", "int agree(int,int)", "int net(int)", "int payings()", "int strike(int,int,int,int)",
        "int rule(int,int,int)", "int slips(int,int,int,boolean)", "long seed(long)", "int years(int)",
        "int keep(int)", "int again(int)"};

    public static void main(String[] args) {
        constants();
        methods();
        constructors();
        check.due("a final class", Modifier.isFinal(SkippedDay.class.getModifiers()) ? 1 : 0, 1);
        check.end("FaceTest");
    }

    private static void constants() {
        check.due("UNKNOWN", SkippedDay.UNKNOWN, -1);
        check.due("BAD", SkippedDay.BAD, -2);
        check.due("LATE", SkippedDay.LATE, -3);
        check.due("FULL", SkippedDay.FULL, -4);
        check.due("NONE", SkippedDay.NONE, -9);
        int open = 0;
        for (Field field : SkippedDay.class.getDeclaredFields()) {
            if (!Modifier.isPrivate(field.getModifiers())) {
                open++;
            }
        }
        check.due("fields that are not private", open, 5);
    }

    private static void methods() {
        Set<String> names = new TreeSet<>();
        Set<String> closed = new HashSet<>();
        Set<String> openNames = new HashSet<>();
        for (Method method : SkippedDay.class.getDeclaredMethods()) {
            if (Modifier.isPrivate(method.getModifiers())) {
                closed.add(method.getName());
            } else {
                openNames.add(method.getName());
                check.due(method + " is public", Modifier.isPublic(method.getModifiers()) ? 1 : 0, 1);
                names.add(signature(method));
            }
        }
        check.same("methods", names.toString(), new TreeSet<>(Arrays.asList(METHODS)).toString());
        closed.retainAll(openNames);
        check.due("private methods by the name of a public one", closed.size(), 0);
    }

    private static String signature(Method method) {
        StringBuilder text = new StringBuilder(method.getReturnType() + " " + method.getName() + "(");
        String comma = "";
        for (Class<?> type : method.getParameterTypes()) {
            text.append(comma).append(type);
            comma = ",";
        }
        return text.append(")").toString();
    }

    private static void constructors() {
        Constructor<?>[] all = SkippedDay.class.getDeclaredConstructors();
        check.due("one constructor", all.length, 1);
        check.due("it is public", Modifier.isPublic(all[0].getModifiers()) ? 1 : 0, 1);
        check.due("it takes nothing", all[0].getParameterCount(), 0);
    }
}
