import java.lang.reflect.Field;
import java.lang.reflect.Method;
import java.lang.reflect.Modifier;
import java.util.Set;
import java.util.TreeSet;

/** The public face: the members that the document names, and no others that can be seen. */
public final class FaceTest {
    private static final Set<String> METHODS = Set.of(
        "int token(int,int)", "int wipe()", "boolean special(int,boolean)", "boolean define(int,int)",
        "int run()", "long result()", "boolean closure()", "int steps()", "long global(int)",
        "long local(int,int)", "boolean isLocal(int,int)", "boolean set(int,int)", "boolean kill(int,int)");
    private static final Set<String> CONSTANTS = Set.of(
        "int OK", "int VOID", "int TYPE", "int MISSING", "int ERROR", "int LONG", "int SYNTAX", "int NONE",
        "long NOTHING");

    public static void main(String[] args) {
        Checks checks = new Checks();
        Class<?> face = BindingLisp.class;
        checks.yes("public and final", Modifier.isPublic(face.getModifiers()) && Modifier.isFinal(face.getModifiers()));
        checks.same("nested classes", face.getDeclaredClasses().length, 0);
        checks.same("constructors", face.getDeclaredConstructors().length, 1);
        checks.same("public constructors", face.getConstructors().length, 1);
        methods(checks, face);
        fields(checks, face);
        checks.end();
    }

    private static void methods(Checks checks, Class<?> face) {
        Set<String> seen = new TreeSet<>();
        for (Method method : face.getDeclaredMethods()) {
            if (Modifier.isPrivate(method.getModifiers())) {
                continue;
            }
            checks.yes(method + " is public", Modifier.isPublic(method.getModifiers()));
            StringBuilder parameters = new StringBuilder();
            for (Class<?> type : method.getParameterTypes()) {
                parameters.append(parameters.length() == 0 ? "" : ",").append(type);
            }
            seen.add(method.getReturnType() + " " + method.getName() + "(" + parameters + ")");
        }
        checks.yes("methods: " + seen, seen.equals(METHODS));
    }

    private static void fields(Checks checks, Class<?> face) {
        Set<String> seen = new TreeSet<>();
        for (Field field : face.getDeclaredFields()) {
            if (!Modifier.isPrivate(field.getModifiers())) {
                int constant = Modifier.PUBLIC | Modifier.STATIC | Modifier.FINAL;
                checks.same("modifiers of " + field, field.getModifiers(), constant);
                seen.add(field.getType() + " " + field.getName());
            }
        }
        checks.yes("constants: " + seen, seen.equals(CONSTANTS));
    }
}
