import java.io.DataInputStream;
import java.io.IOException;
import java.io.InputStream;
import java.lang.reflect.Field;
import java.lang.reflect.Method;
import java.lang.reflect.Modifier;
import java.util.ArrayList;
import java.util.Arrays;
import java.util.List;
import java.util.Set;
import java.util.TreeSet;

/** Rules 1, 4, 5, 6 and 11 of LANGUAGE.md, held by the compiled class: what it calls, how large it is. */
final class LibraryTest {
    /** Of all that rule 4 lists, what the class has use for. */
    private static final Set<String> LIBRARY = Set.of("java/lang/Object.<init>", "java/lang/String.length",
            "java/lang/String.charAt", "java/lang/System.arraycopy", "java/lang/Integer.bitCount",
            "java/lang/Integer.signum", "java/lang/Integer.numberOfTrailingZeros", "java/lang/Math.min",
            "java/lang/Math.abs");
    private static final int MOST_CLASSES = 12, MOST_FIELDS = 20, MOST_PARAMETERS = 7;

    public static void main(String[] args) throws IOException {
        List<Class<?>> classes = new ArrayList<>(Arrays.asList(SceneShots.class.getDeclaredClasses()));
        classes.add(SceneShots.class);
        Due.due("classes are at most " + MOST_CLASSES, classes.size() <= MOST_CLASSES ? 1 : 0, 1);
        for (Class<?> each : classes) {
            calls(each);
            sizes(each);
            if (each != SceneShots.class) {
                names(each);
            }
        }
        Due.finish("LibraryTest");
    }

    private static void calls(Class<?> each) throws IOException {
        for (String called : calledBy(each)) {
            boolean own = called.startsWith("SceneShots");
            Due.due(each.getName() + " may call " + called, own || LIBRARY.contains(called) ? 1 : 0, 1);
        }
    }

    private static void sizes(Class<?> each) {
        int fields = 0;
        for (Field field : each.getDeclaredFields()) {
            boolean isStatic = Modifier.isStatic(field.getModifiers());
            fields += isStatic ? 0 : 1;
            Due.due(each.getName() + "." + field.getName() + " is final if it is static",
                    !isStatic || Modifier.isFinal(field.getModifiers()) ? 1 : 0, 1);
        }
        Due.due(each.getName() + " has at most " + MOST_FIELDS + " fields", fields <= MOST_FIELDS ? 1 : 0, 1);
        for (Method method : each.getDeclaredMethods()) {
            Due.due(each.getName() + "." + method.getName() + " has at most " + MOST_PARAMETERS + " parameters",
                    method.getParameterCount() <= MOST_PARAMETERS ? 1 : 0, 1);
        }
    }

    private static void names(Class<?> inside) {
        Set<String> face = new TreeSet<>();
        for (Method method : SceneShots.class.getDeclaredMethods()) {
            face.add(method.getName());
        }
        for (Method method : inside.getDeclaredMethods()) {
            Due.due(inside.getName() + "." + method.getName() + " has a name of its own",
                    face.contains(method.getName()) ? 1 : 0, 0);
        }
    }

    /** All methods that the class file names, by its table of constants. */
    private static Set<String> calledBy(Class<?> each) throws IOException {
        try (InputStream file = each.getResourceAsStream("/" + each.getName() + ".class");
                DataInputStream in = new DataInputStream(file)) {
            in.readInt();
            in.readInt();
            int size = in.readUnsignedShort();
            int[] tags = new int[size];
            int[] first = new int[size];
            int[] second = new int[size];
            String[] texts = new String[size];
            for (int at = 1; at < size; at++) {
                tags[at] = in.readUnsignedByte();
                switch (tags[at]) {
                    case 1 -> texts[at] = in.readUTF();
                    case 3, 4 -> in.readInt();
                    case 5, 6 -> {
                        in.readLong();
                        at++;
                    }
                    case 7, 8, 16, 19, 20 -> first[at] = in.readUnsignedShort();
                    case 15 -> {
                        in.readUnsignedByte();
                        first[at] = in.readUnsignedShort();
                    }
                    default -> {
                        first[at] = in.readUnsignedShort();
                        second[at] = in.readUnsignedShort();
                    }
                }
            }
            Set<String> called = new TreeSet<>();
            for (int at = 1; at < size; at++) {
                // 10 and 11 name methods, 17 and 18 what is bound at run time (lambdas, texts joined by +).
                if (tags[at] == 10 || tags[at] == 11) {
                    called.add(texts[first[first[at]]] + "." + texts[first[second[at]]]);
                } else if (tags[at] == 17 || tags[at] == 18) {
                    called.add("what is bound at run time: " + texts[first[second[at]]]);
                }
            }
            return called;
        }
    }
}
