import java.lang.reflect.Constructor;
import java.lang.reflect.Field;
import java.lang.reflect.Method;
import java.lang.reflect.Modifier;
import java.util.Arrays;
import java.util.TreeSet;

/** The public face: just the document's constants, constructor and methods. */
final class FaceTest {
    private static final String[] METHODS = {
        "type(int)", "clear()", "tells()", "puts(int,int)", "takes(int)", "strikes(int)", "makes()", "undo()",
        "line(int,int)", "shot(int,int)", "player(int,int)", "edit(int)", "best(int)", "cheapest(int)", "needed()",
        "sees(int,int)", "forget()", "which(int)", "keep(int)", "back(int)", "count(int)"};

    public static void main(String[] args) {
        constants();
        members();
        Due.finish("FaceTest");
    }

    private static void constants() {
        Due.due("BAD", SceneShots.BAD, -1);
        Due.due("STATE", SceneShots.STATE, -2);
        Due.due("FULL", SceneShots.FULL, -3);
        Due.due("NONE", SceneShots.NONE, -9);
        Due.due("NO", SceneShots.NO, -1000000);
    }

    private static void members() {
        TreeSet<String> methods = new TreeSet<>();
        for (Method method : SceneShots.class.getDeclaredMethods()) {
            if (!Modifier.isPrivate(method.getModifiers()) && !method.isSynthetic()) {
                methods.add(signature(method));
            }
        }
        Due.due("methods as told (they are " + methods + ")",
                methods.equals(new TreeSet<>(Arrays.asList(METHODS))) ? 1 : 0, 1);
        TreeSet<String> fields = new TreeSet<>();
        for (Field field : SceneShots.class.getDeclaredFields()) {
            if (!Modifier.isPrivate(field.getModifiers())) {
                fields.add(field.getName());
            }
        }
        Due.due("fields as told (they are " + fields + ")",
                fields.equals(new TreeSet<>(Arrays.asList("BAD", "STATE", "FULL", "NONE", "NO"))) ? 1 : 0, 1);
        Constructor<?>[] constructors = SceneShots.class.getDeclaredConstructors();
        Due.due("constructors", constructors.length, 1);
        Due.due("public, final class", SceneShots.class.getModifiers(), Modifier.PUBLIC | Modifier.FINAL);
        for (Class<?> inside : SceneShots.class.getDeclaredClasses()) {
            Due.due(inside.getName() + " is static", Modifier.isStatic(inside.getModifiers()) ? 1 : 0, 1);
        }
    }

    private static String signature(Method method) {
        StringBuilder text = new StringBuilder(method.getName()).append('(');
        for (Class<?> type : method.getParameterTypes()) {
            text.append(text.charAt(text.length() - 1) == '(' ? "" : ",").append(type.getName());
        }
        if (method.getReturnType() != int.class || !Modifier.isPublic(method.getModifiers())) {
            text.append("?");
        }
        return text.append(')').toString();
    }
}
