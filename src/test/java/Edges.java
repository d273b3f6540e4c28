import java.lang.reflect.InvocationTargetException;
import java.lang.reflect.Method;
import java.util.ArrayList;
import java.util.Comparator;
import java.util.List;
import java.util.function.Consumer;
import java.util.function.ToIntFunction;

/** Runs tests that are named by their promise, and holds what a call that is refused must leave alone. */
final class Edges {
    /** More SHOTS and LINES than these there are never. */
    static final String SIX_SHOTS_EIGHT_LINES = "lines01100101;shot1 8 0 1 0 7 1;shot2 8 1 2 1 6 2;shot3 8 2 3 2 5 3;"
            + "shot4 8 0 4 3 3 4;shot5 8 1 5 7 7 5;shot6 8 2 1 0 0 6;";
    static final int[] FAR = {Integer.MIN_VALUE, Integer.MIN_VALUE + 1, -1000000, 1 << 16, Integer.MAX_VALUE - 1,
        Integer.MAX_VALUE};

    private Edges() {
    }

    static List<Method> testsOf(Class<?> tests) {
        List<Method> found = new ArrayList<>();
        for (Method method : tests.getDeclaredMethods()) {
            if (method.getName().startsWith("promise")) {
                found.add(method);
            }
        }
        found.sort(Comparator.comparing(Method::getName));
        return found;
    }

    static void run(Class<?> tests) throws IllegalAccessException {
        for (Method test : testsOf(tests)) {
            int askedBefore = Due.asked();
            Due.within(test.getName());
            try {
                test.invoke(null);
            } catch (InvocationTargetException thrown) {
                Due.due("throws " + thrown.getCause() + ", and", 1, 0);
            }
            if (Due.asked() == askedBefore) {
                Due.due("how many answers it asks", 0, 1);
            }
        }
        Due.finish(tests.getSimpleName());
    }

    /** A scene with something seen, and a text that ends too early. */
    static void rich(SceneShots x) {
        scene(x);
        x.sees(0, 1);
        Due.type(x, "lines 01");
    }

    /** Two images, seven that are known, an edit with a gap. */
    static void scene(SceneShots x) {
        Due.tell(x, "lines 1;shot 9 9 2 5 0 7 9;");
        x.puts(0, 0);
        x.keep(1);
        Due.tell(x, "players 1 2 3 4;lines 0110;shot 5 6 2 3 1 7 8;shot 0 9 1 5 0 2 1;shot 2 7 0 1 0 7 2;");
        x.puts(0, 1);
        x.puts(1, 0);
        x.keep(0);
        x.puts(2, 2);
        x.takes(0);
    }

    /** 160 letters that tell one LINE, 6 that are SEEN, 8 that are known. */
    static void full(SceneShots x) {
        Due.tell(x, "lines 01;shot 5 6 2 3 0 7 8;shot 2 7 0 1 0 7 2;");
        for (int at = 0; at < 8; at++) {
            x.puts(at / 4, at % 2);
        }
        for (int at = 0; at < 6; at++) {
            x.sees(0, 0);
        }
        Due.type(x, " ".repeat(152) + "lines 1;");
    }

    /** The call is refused by that answer, and no call could tell that it was made at all. */
    static void refused(String name, Consumer<SceneShots> before, ToIntFunction<SceneShots> call, int want) {
        leavesAll(name, before, call, want);
    }

    /** The call has that answer, and no call could tell that it was made at all. */
    static void leavesAll(String name, Consumer<SceneShots> before, ToIntFunction<SceneShots> call, int want) {
        SceneShots x = new SceneShots();
        before.accept(x);
        Due.due(name, call.applyAsInt(x), want);
        Shown.alike(name, before.andThen(call::applyAsInt), before);
    }

    static void refusedWhenRich(String name, ToIntFunction<SceneShots> call, int want) {
        refused(name, Edges::rich, call, want);
    }
}
