import java.lang.reflect.Constructor;
import java.lang.reflect.Field;
import java.lang.reflect.Method;
import java.lang.reflect.Modifier;
import java.util.Set;
import java.util.TreeSet;

/** The public face: just what the document names, and nothing else that can be seen. */
public final class FaceTest {
    private static final String[] METHODS = {
        "int routine()", "int code(int,int)", "int codeAt(int,int)", "int store(int,int)",
        "int held(int)", "int lot(int)", "int acting(int)", "int reads(int)",
        "int run(int,int,int,int)", "int answer()", "int ran(int)", "int keep(int,boolean)",
        "int room(int,int)", "int forget()", "int kept(int,int)", "int log(int,int,int,int)",
        "int clear()", "int cost(int,int)", "int best(int)", "int told(int)"
    };

    public static void main(String[] args) {
        Checks checks = new Checks();
        checks.isTrue("public and final", Modifier.isPublic(WorthKeeping.class.getModifiers())
                && Modifier.isFinal(WorthKeeping.class.getModifiers()));
        methods(checks);
        fields(checks);
        constructors(checks);
        checks.end();
    }

    private static void methods(Checks checks) {
        Set<String> due = new TreeSet<>(Set.of(METHODS));
        Set<String> seen = new TreeSet<>();
        Set<String> names = new TreeSet<>();
        for (String method : METHODS) {
            names.add(method.substring(4, method.indexOf('(')));
        }
        for (Method method : WorthKeeping.class.getDeclaredMethods()) {
            if (Modifier.isPrivate(method.getModifiers())) {
                checks.isTrue("a name of the face is not private: " + method.getName(),
                        !names.contains(method.getName()));
                continue;
            }
            StringBuilder text = new StringBuilder();
            for (Class<?> type : method.getParameterTypes()) {
                text.append(text.length() == 0 ? "" : ",").append(type.getName());
            }
            seen.add(method.getReturnType() + " " + method.getName() + "(" + text + ")");
            checks.isTrue("public: " + method, Modifier.isPublic(method.getModifiers())
                    && !Modifier.isStatic(method.getModifiers()));
        }
        checks.isTrue("methods " + seen, seen.equals(due));
    }

    private static void fields(Checks checks) {
        Set<String> seen = new TreeSet<>();
        for (Field field : WorthKeeping.class.getDeclaredFields()) {
            if (!Modifier.isPrivate(field.getModifiers())) {
                seen.add(field.getName());
            }
        }
        checks.isTrue("constants " + seen, seen.equals(
                new TreeSet<>(Set.of("NONE", "UNKNOWN", "OUTSIDE", "STATE", "FULL", "NO"))));
        checks.due("NONE", -6, WorthKeeping.NONE);
        checks.due("UNKNOWN", -1, WorthKeeping.UNKNOWN);
        checks.due("OUTSIDE", -2, WorthKeeping.OUTSIDE);
        checks.due("STATE", -3, WorthKeeping.STATE);
        checks.due("FULL", -4, WorthKeeping.FULL);
        checks.due("NO", -5, WorthKeeping.NO);
    }

    private static void constructors(Checks checks) {
        Constructor<?>[] all = WorthKeeping.class.getDeclaredConstructors();
        checks.due("constructors", 1, all.length);
        checks.isTrue("public constructor without arguments", all.length == 1
                && Modifier.isPublic(all[0].getModifiers()) && all[0].getParameterCount() == 0);
    }
}
