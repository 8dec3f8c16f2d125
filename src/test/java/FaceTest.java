import java.lang.reflect.Constructor;
import java.lang.reflect.Field;
import java.lang.reflect.Method;
import java.lang.reflect.Modifier;
import java.util.Arrays;
import java.util.Set;
import java.util.TreeSet;

/** The public face, and LANGUAGE.md's rule 1: these members and no others can be seen. */
final class FaceTest {
    private static final Set<String> METHODS = new TreeSet<>(Arrays.asList(
            "mint/2", "emit/2", "deploy/1", "pay/3", "call/5", "submit/0", "discard/0", "balance/1",
            "global/2", "local/3", "least/1", "report/1", "logged/1", "count/1"));

    public static void main(String[] args) {
        Check check = new Check("face");
        Class<GroupLedger> face = GroupLedger.class;
        check.due("public and final", face.getModifiers(), Modifier.PUBLIC | Modifier.FINAL);
        check.due("REFUSED", GroupLedger.REFUSED, -1);
        check.due("FULL", GroupLedger.FULL, -2);
        check.due("NONE", GroupLedger.NONE, -3);
        check.due("constructors", visibleConstructors(check, face), 1);
        check.due("methods", visibleMethods(check, face), METHODS);
        check.due("fields", visibleFields(face), new TreeSet<>(Arrays.asList("FULL", "NONE", "REFUSED")));
        privateNames(check, face);
        nestedClasses(check, face);
        check.finish();
    }

    private static int visibleConstructors(Check check, Class<?> face) {
        int visible = 0;
        for (Constructor<?> constructor : face.getDeclaredConstructors()) {
            if (!Modifier.isPrivate(constructor.getModifiers())) {
                visible++;
                check.due("constructor is public", constructor.getModifiers(), Modifier.PUBLIC);
                check.due("its parameters", constructor.getParameterCount(), 0);
            }
        }
        return visible;
    }

    private static Set<String> visibleMethods(Check check, Class<?> face) {
        Set<String> names = new TreeSet<>();
        for (Method method : face.getDeclaredMethods()) {
            if (!Modifier.isPrivate(method.getModifiers())) {
                names.add(method.getName() + "/" + method.getParameterCount());
                check.due(method.getName() + " is public", method.getModifiers(), Modifier.PUBLIC);
                check.due(method.getName() + " answers", method.getReturnType(), int.class);
            }
        }
        return names;
    }

    private static Set<String> visibleFields(Class<?> face) {
        Set<String> names = new TreeSet<>();
        for (Field field : face.getDeclaredFields()) {
            if (!Modifier.isPrivate(field.getModifiers())) {
                names.add(field.getName());
            }
        }
        return names;
    }

    private static void privateNames(Check check, Class<?> face) {
        for (Method method : face.getDeclaredMethods()) {
            boolean likePublic = METHODS.toString().contains(method.getName() + "/");
            boolean isPrivate = Modifier.isPrivate(method.getModifiers());
            check.due(method.getName() + " is public or has a name of its own", isPrivate && likePublic, false);
        }
    }

    private static void nestedClasses(Check check, Class<?> face) {
        for (Class<?> nested : face.getDeclaredClasses()) {
            int modifiers = nested.getModifiers();
            check.due(nested + " is static", Modifier.isStatic(modifiers), true);
            check.due(nested + " is hidden", Modifier.isPublic(modifiers) || Modifier.isProtected(modifiers), false);
        }
    }
}
