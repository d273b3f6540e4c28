import java.lang.reflect.Method;

/** Each promise has tests of its edges that bear its number. */
final class EdgeNamesTest {
    private static final Class<?>[] TESTS = {EdgeTextTest.class, EdgeDoneTest.class, EdgeAskedTest.class,
        EdgePlanTest.class, EdgeImageTest.class};
    private static final int PROMISES = 22;

    public static void main(String[] args) {
        int[] tests = new int[PROMISES + 1];
        for (Class<?> each : TESTS) {
            for (Method test : Edges.testsOf(each)) {
                tests[Integer.parseInt(test.getName().substring(7, 9))]++;
            }
        }
        for (int promise = 1; promise <= PROMISES; promise++) {
            System.out.println("promise " + promise + ": " + tests[promise] + " tests of edges");
            Due.due("promise " + promise + " has tests of its edges", tests[promise] > 1 ? 1 : 0, 1);
        }
        Due.finish("EdgeNamesTest");
    }
}
