/** What the tests of the project share: answers that are due, and texts told at once. */
final class Due {
    private static int asked = 0;
    private static int wrong = 0;
    private static String test = "";

    private Due() {
    }

    /** What is told from here on is told under the test's name. */
    static void within(String name) {
        test = name + ": ";
    }

    static void due(String call, long got, long want) {
        asked++;
        if (got != want) {
            wrong++;
            System.out.println(test + call + " answered " + got + ", due is " + want);
        }
    }

    static void type(SceneShots x, String text) {
        for (int at = 0; at < text.length(); at++) {
            x.type(text.charAt(at));
        }
    }

    /** THE TEXT is told by tells(), whatever stood in it before. */
    static int tell(SceneShots x, String text) {
        x.clear();
        type(x, text);
        return x.tells();
    }

    static SceneShots told(String text) {
        SceneShots x = new SceneShots();
        int answer = tell(x, text);
        if (answer < 0) {
            due("tells() of '" + text + "', by which a test begins,", answer, 0);
        }
        return x;
    }

    static int asked() {
        return asked;
    }

    static int wrong() {
        return wrong;
    }

    static void finish(String test) {
        System.out.println(test + ": " + asked + " answers asked, " + wrong + " not as due");
        if (wrong != 0 || asked == 0) {
            System.exit(1);
        }
    }
}
