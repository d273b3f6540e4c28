import java.lang.reflect.Method;
import java.lang.reflect.Modifier;
import java.nio.file.Files;
import java.nio.file.Path;
import java.util.ArrayList;
import java.util.Arrays;
import java.util.List;
import java.util.Map;
import java.util.TreeMap;
import java.util.TreeSet;
import java.util.function.Consumer;
import java.util.regex.Matcher;
import java.util.regex.Pattern;

/** README's tables: the constants, each call's numbers, and by what it is refused. */
final class ReadmeCallsTest {
    private record Range(int lowest, int highest) {
    }

    private record Row(String name, List<Range> ranges, TreeSet<String> answers) {
    }

    private static final Map<String, Integer> CONSTANTS = Map.of("BAD", SceneShots.BAD, "STATE", SceneShots.STATE,
            "FULL", SceneShots.FULL, "NONE", SceneShots.NONE, "NO", SceneShots.NO);
    private static final Pattern CONSTANT = Pattern.compile("(?m)^\\| `([A-Z]+)` \\| (-\\d+) \\|");
    private static final Pattern CALL = Pattern.compile("(?m)^\\| `(\\w+)\\(([^)]*)\\)` \\|(.*?)\\|(.*)\\|$");
    private static final Pattern NUMBER = Pattern.compile("`(\\w+)` (a LINE|a SHOT|(-?\\d+) \\.\\. (\\d+|the last LINE))");
    private static final int LAST_LINE = 7, LAST_SHOT = 5;
    /** What README tells by numbers, not by names: SIDE and WAY may be any small number. */
    private static final int SIDE = 7, LAST_WAY = 9;

    public static void main(String[] args) throws Exception {
        String readme = Files.readString(Path.of("README.md"));
        constants(readme);
        Map<String, Row> rows = rows(readme);
        int methods = 0;
        for (Method method : SceneShots.class.getDeclaredMethods()) {
            if (Modifier.isPublic(method.getModifiers())) {
                methods++;
                Row row = rows.get(method.getName());
                int parameters = row == null ? -1 : row.ranges.size();
                Due.due("README's numbers of " + method.getName(), parameters, method.getParameterCount());
                if (parameters == method.getParameterCount()) {
                    numbers(method, row);
                    answers(method, row);
                }
            }
        }
        Due.due("calls that README tells of", rows.size(), methods);
        Due.finish("ReadmeCallsTest");
    }

    private static void constants(String readme) {
        int told = 0;
        for (Matcher found = CONSTANT.matcher(readme); found.find(); told++) {
            Integer number = CONSTANTS.get(found.group(1));
            Due.due("README's " + found.group(1), Integer.parseInt(found.group(2)), number == null ? 0 : number);
        }
        Due.due("constants that README tells of", told, CONSTANTS.size());
    }

    private static Map<String, Row> rows(String readme) {
        Map<String, Row> rows = new TreeMap<>();
        for (Matcher found = CALL.matcher(readme); found.find();) {
            List<String> names = new ArrayList<>();
            List<Range> ranges = new ArrayList<>();
            for (Matcher number = NUMBER.matcher(found.group(3)); number.find();) {
                names.add(number.group(1));
                ranges.add(range(number));
            }
            Due.due("README's names of the numbers of " + found.group(1),
                    String.join(", ", names).equals(found.group(2)) ? 1 : 0, 1);
            TreeSet<String> answers = new TreeSet<>();
            for (Matcher name = Pattern.compile("`([A-Z]+)`").matcher(found.group(4)); name.find();) {
                answers.add(name.group(1));
            }
            rows.put(found.group(1), new Row(found.group(1), ranges, answers));
        }
        return rows;
    }

    /** As it is with the most LINES and SHOTS. */
    private static Range range(Matcher number) {
        if (number.group(3) == null) {
            return new Range(0, number.group(2).equals("a LINE") ? LAST_LINE : LAST_SHOT);
        }
        boolean toLastLine = number.group(4).equals("the last LINE");
        return new Range(Integer.parseInt(number.group(3)),
                toLastLine ? LAST_LINE : Integer.parseInt(number.group(4)));
    }

    private static int bad(String name) {
        return name.equals("shot") ? SceneShots.NO : SceneShots.BAD;
    }

    /** All numbers that README tells are taken, those beside them are not. */
    private static void numbers(Method method, Row row) throws Exception {
        for (int at = 0; at < row.ranges.size(); at++) {
            Range range = row.ranges.get(at);
            for (int n = range.lowest - 1; n <= range.highest + 1; n++) {
                boolean taken = n >= range.lowest && n <= range.highest;
                for (int other : ends(row, 1 - at)) {
                    Object[] given = given(row.ranges.size(), at, n, other);
                    int got = (Integer) method.invoke(Due.told(Edges.SIX_SHOTS_EIGHT_LINES), given);
                    Due.due(row.name + Arrays.toString(given) + " is BAD", got == bad(row.name) ? 1 : 0, taken ? 0 : 1);
                }
            }
        }
    }

    private static int[] ends(Row row, int at) {
        if (row.ranges.size() < 2) {
            return new int[] {0};
        }
        return new int[] {row.ranges.get(at).lowest, row.ranges.get(at).highest};
    }

    private static Object[] given(int size, int at, int n, int other) {
        Object[] given = new Object[size];
        Arrays.fill(given, other);
        given[at] = n;
        return given;
    }

    /** The constants that a call answers, in some state by some numbers, are just those that README names. */
    private static void answers(Method method, Row row) throws Exception {
        TreeSet<String> answered = new TreeSet<>();
        boolean faults = false;
        for (Consumer<SceneShots> state : states()) {
            for (Object[] given : someNumbers(method.getParameterCount())) {
                SceneShots x = new SceneShots();
                state.accept(x);
                int got = (Integer) method.invoke(x, given);
                faults |= got <= -10 && got != SceneShots.NO && !isSideOrWay(method, given);
                for (Map.Entry<String, Integer> constant : CONSTANTS.entrySet()) {
                    if (constant.getValue() == got && !isSideOrWay(method, given)) {
                        answered.add(constant.getKey());
                    }
                }
            }
        }
        Due.due("README's answers of " + row.name + " are " + row.answers + ", the class's " + answered,
                answered.equals(row.answers) ? 1 : 0, 1);
        Due.due(row.name + " tells a FAULT", faults ? 1 : 0, row.name.equals("tells") ? 1 : 0);
    }

    private static boolean isSideOrWay(Method method, Object[] given) {
        return method.getName().equals("shot") && (Integer) given[1] >= SIDE && (Integer) given[1] <= LAST_WAY;
    }

    private static List<Consumer<SceneShots>> states() {
        List<Consumer<SceneShots>> states = new ArrayList<>();
        states.add(x -> { });
        states.add(Edges::rich);
        states.add(Edges::full);
        states.add(x -> Due.tell(x, "lines01;shot4 8 0 1 0 0 1;"));
        states.add(x -> Due.tell(x, Edges.SIX_SHOTS_EIGHT_LINES));
        states.add(x -> {
            Due.tell(x, Edges.SIX_SHOTS_EIGHT_LINES);
            x.makes();
            x.sees(0, 0);
            x.sees(0, 1);
        });
        return states;
    }

    private static List<Object[]> someNumbers(int parameters) {
        int[] some = {Integer.MIN_VALUE, -3, -2, -1, 0, 1, 2, 3, 4, 5, 6, 7, 8, 9, 10, 11, 255, 256, Integer.MAX_VALUE};
        List<Object[]> all = new ArrayList<>();
        if (parameters == 0) {
            all.add(new Object[0]);
            return all;
        }
        for (int one : some) {
            if (parameters == 1) {
                all.add(new Object[] {one});
                continue;
            }
            for (int other : some) {
                all.add(new Object[] {one, other});
            }
        }
        return all;
    }
}
