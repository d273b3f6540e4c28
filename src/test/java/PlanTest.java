/** Promises 14 to 22: other edits, which shot, images, counts. */
final class PlanTest {
    private static final int BAD = SceneShots.BAD, STATE = SceneShots.STATE, FULL = SceneShots.FULL;
    private static final int NONE = SceneShots.NONE;

    public static void main(String[] args) {
        bestWithoutLines();
        bestIsNone();
        fewestShotsFirst();
        fewestCutsThen();
        lowestShotsLast();
        allLinesAndShots();
        cheapest();
        cheapestInFloat();
        needed();
        sees();
        which();
        images();
        backEndsUndo();
        count();
        Due.finish("PlanTest");
    }

    private static void best(SceneShots x, int shots, int cuts, String edit) {
        Due.due("best(-2)", x.best(-2), shots);
        Due.due("best(-1)", x.best(-1), cuts);
        for (int line = 0; line < edit.length(); line++) {
            Due.due("best(" + line + ") of " + edit, x.best(line), edit.charAt(line) - '0');
        }
        Due.due("best(no such line)", x.best(edit.length()), BAD);
        Due.due("best(-3)", x.best(-3), BAD);
        Due.due("nothing is changed", x.edit(0), x.count(0));
    }

    private static void bestWithoutLines() {
        best(new SceneShots(), 0, 0, "");
        best(Due.told("shot 2 8 0 1 0 5 3;"), 0, 0, "");
        Due.due("best(least)", new SceneShots().best(Integer.MIN_VALUE), BAD);
        Due.due("best(most)", new SceneShots().best(Integer.MAX_VALUE), BAD);
    }

    private static void bestIsNone() {
        String[] texts = {"lines 00;", "lines 00;shot 2 8 1 1 0 7 3;", "lines 00;shot 2 8 0 1 0 0 3;",
            "lines 00;shot 2 8 0 1 0 0 3;shot 2 2 0 5 1 1 3;", "lines 00;shot 2 8 0 1 0 0 3;shot 2 7 0 2 1 1 3;"};
        for (String text : texts) {
            SceneShots x = Due.told(text);
            for (int k = -2; k < 2; k++) {
                Due.due("best(" + k + ") of " + text, x.best(k), NONE);
            }
            Due.due("best(2) of " + text, x.best(2), BAD);
            Due.due("best(-3) of " + text, x.best(-3), BAD);
            Due.due("cheapest(0) of " + text, x.cheapest(0), NONE);
            Due.due("cheapest(1) of " + text, x.cheapest(1), NONE);
            Due.due("needed() of " + text, x.needed(), 0);
        }
        best(Due.told("lines 0;shot 2 8 1 1 0 7 3;"), 1, 0, "0");
        best(Due.told("lines 01;shot 2 8 1 1 0 7 3;"), 1, 0, "00");
    }

    /** By two SHOTS there are three CUTS, by three but two. */
    private static void fewestShotsFirst() {
        SceneShots x = Due.told("lines 00110011;shot 2 8 0 1 0 7 9;shot 7 8 1 1 0 7 9;shot 4 9 2 5 2 5 1;");
        best(x, 2, 3, "00010001");
        Due.due("cheapest(0)", x.cheapest(0), 3);
        Due.due("cheapest(1)", x.cheapest(1), 6000);
        Due.due("needed()", x.needed(), 3);
    }

    private static void fewestCutsThen() {
        best(Due.told("lines 001100;shot 2 8 0 1 0 5 3;shot 7 8 1 1 0 5 3;"), 2, 2, "000100");
        best(Due.told("lines 0011;shot 2 8 0 1 0 7 3;shot 7 8 1 1 0 7 3;"), 2, 1, "0001");
        best(Due.told("lines 0011;shot 7 8 1 1 0 7 3;shot 2 8 0 1 0 7 3;"), 2, 1, "1000");
        best(Due.told("lines 0011001;shot 2 8 0 1 0 6 3;shot 7 8 1 1 0 6 3;shot 4 9 2 5 3 6 1;"), 2, 1, "0002222");
    }

    private static void lowestShotsLast() {
        best(Due.told("lines 01;shot 2 8 1 1 0 7 3;shot 7 8 0 1 0 7 3;shot 7 8 2 1 0 7 3;"), 1, 0, "00");
        best(Due.told("lines 00;shot 2 8 1 1 0 7 3;shot 7 8 0 1 0 7 3;shot 7 8 2 1 0 7 3;"), 1, 0, "11");
        best(Due.told("lines 000;shot 2 8 0 1 1 2 3;shot 7 8 2 5 0 1 3;shot 2 8 0 5 0 0 3;"), 2, 1, "100");
        best(Due.told("lines 1100;shot 2 8 0 1 0 3 3;shot 7 8 2 1 0 0 3;shot 7 8 2 5 1 3 3;"), 2, 1, "0222");
        best(Due.told("lines 00000000;shot 2 8 0 1 0 3 3;shot 7 8 2 1 3 7 3;shot 2 9 2 3 2 7 3;"), 2, 1, "00001111");
    }

    /** SHOTS 0 to 3 cover the last LINE alone, from the other side. */
    private static void allLinesAndShots() {
        SceneShots x = Due.told("lines00110011;shot1 1 2 1 7 7 1;shot3 1 2 3 7 7 1;shot5 1 2 5 7 7 1;shot7 1 2 1 7 7 1;"
                + "shot2 8 0 1 0 7 9;shot7 8 1 1 0 7 9;");
        best(x, 2, 3, "44454445");
        Due.due("cheapest(0) of six", x.cheapest(0), 48);
        Due.due("cheapest(1) of six", x.cheapest(1), 6000);
        Due.due("needed() of six", x.needed(), 48);
        x.sees(1, 1);
        whichDue(x, 4, 0);
        Due.due("makes() of eight", x.makes(), 8);
        for (int line = 0; line < 8; line++) {
            Due.due("made: line(" + line + ", 1)", x.line(line, 1), line % 4 == 3 ? 5 : 4);
        }
        int[] edits = {0, 0, 0, 3, 2};
        for (int what = 0; what < 5; what++) {
            Due.due("made: edit(" + what + ")", x.edit(what), edits[what]);
        }
        Due.due("line(7, 3)", x.line(7, 3), 63);
        Due.due("shot(5, 10)", x.shot(5, 10), 16);
        Due.due("strikes(0) of six", x.strikes(0), 0);
        Due.due("moved up: line(7, 1)", x.line(7, 1), 4);
        Due.due("moved up: shot(4, 2)", x.shot(4, 2), 1);
    }

    private static void cheapest() {
        SceneShots x = Due.told("lines 0101;shot 2 8 0 1 0 3 3;shot 7 8 1 1 0 3 3;shot 4 9 2 5 0 3 7;shot 4 1 2 4 0 3 1;");
        Due.due("cheapest(0)", x.cheapest(0), 8);
        Due.due("cheapest(1)", x.cheapest(1), 333);
        Due.due("cheapest(2)", x.cheapest(2), BAD);
        Due.due("cheapest(-1)", x.cheapest(-1), BAD);
        x.strikes(3);
        Due.due("cheapest(0), alike: least as bits", x.cheapest(0), 1);
        Due.due("cheapest(1)", x.cheapest(1), 1000);
        SceneShots two = Due.told("lines 00;shot 2 8 0 5 0 1 9;shot 7 8 2 1 0 0 1;shot 2 8 0 1 1 1 1;");
        Due.due("cheapest(0), not the fewest", two.cheapest(0), 6);
        Due.due("cheapest(1)", two.cheapest(1), 666);
        Due.due("best(-2) of it", two.best(-2), 1);
        SceneShots empty = Due.told("shot 2 8 0 5 0 1 9;");
        Due.due("cheapest(0) without lines", empty.cheapest(0), 0);
        Due.due("cheapest(1) without lines", empty.cheapest(1), 0);
    }

    private static void cheapestInFloat() {
        SceneShots x = Due.told("lines 000;shot 2 8 0 1 0 0 7;shot 7 8 2 1 1 1 1;shot 4 9 0 5 2 2 1;");
        Due.due("cheapest(0)", x.cheapest(0), 7);
        Due.due("cheapest(1): 9 / 3, in float, by numbers", x.cheapest(1), 2999);
        SceneShots y = Due.told("lines 000;shot 2 8 0 1 0 0 1;shot 7 8 2 1 1 1 1;shot 4 9 0 5 2 2 7;");
        Due.due("cheapest(1): 9 / 3, by other numbers", y.cheapest(1), 3000);
        SceneShots z = Due.told("lines 00;shot 2 8 0 1 0 0 6;shot 7 8 2 1 1 1 2;shot 2 2 0 1 0 0 7;shot 7 2 2 1 1 1 1;");
        Due.due("cheapest(0): 7 and 1 are less than 6 and 2", z.cheapest(0), 12);
        Due.due("cheapest(1)", z.cheapest(1), 2666);
    }

    private static void needed() {
        SceneShots x = Due.told("lines 000;shot 2 8 0 1 0 1 7;shot 7 8 2 1 1 1 1;shot 7 9 2 4 2 2 1;");
        Due.due("needed()", x.needed(), 5);
        x.strikes(2);
        Due.due("needed() without a whole edit", x.needed(), 0);
        Due.due("needed() of a new object", new SceneShots().needed(), 0);
        Due.due("needed(), one for all", Due.told("lines 01;shot 2 8 0 1 0 1 7;").needed(), 1);
        Due.due("needed(), either", Due.told("lines 01;shot 2 8 0 1 0 1 7;shot 2 8 0 1 0 1 7;").needed(), 0);
        Due.due("needed() without lines", Due.told("shot 2 8 0 1 0 1 7;").needed(), 0);
    }

    private static void sees() {
        SceneShots x = new SceneShots();
        Due.due("sees(3, 0)", x.sees(3, 0), BAD);
        Due.due("sees(-1, 0)", x.sees(-1, 0), BAD);
        Due.due("sees(0, 6)", x.sees(0, 6), BAD);
        Due.due("sees(0, -2)", x.sees(0, -2), BAD);
        Due.due("sees(most, least)", x.sees(Integer.MAX_VALUE, Integer.MIN_VALUE), BAD);
        int[][] all = {{0, -1}, {1, 5}, {2, 5}, {2, -1}, {0, 0}, {0, 0}};
        for (int at = 0; at < 6; at++) {
            Due.due("sees(" + all[at][0] + ", " + all[at][1] + ")", x.sees(all[at][0], all[at][1]), at + 1);
        }
        Due.due("sees(0, 0) when full", x.sees(0, 0), FULL);
        Due.due("sees(3, 0) when full", x.sees(3, 0), BAD);
        Due.due("count(2)", x.count(2), 6);
        Due.due("forget()", x.forget(), 6);
        Due.due("forget() again", x.forget(), 0);
        Due.due("count(2) behind forget()", x.count(2), 0);
        Due.due("sees(0, 0) behind forget()", x.sees(0, 0), 1);
    }

    private static void whichDue(SceneShots x, int many, int lowest) {
        Due.due("which(0)", x.which(0), many);
        Due.due("which(1)", x.which(1), lowest);
    }

    private static void which() {
        SceneShots x = Due.told("shot 2 8 0 1 0 0 1;shot 2 2 1 1 0 0 1;shot 2 5 1 2 0 0 1;shot 2 8 2 2 0 0 1;");
        whichDue(x, 4, 0);
        x.sees(0, 1);
        whichDue(x, 2, 1);
        x.sees(0, 1);
        whichDue(x, 2, 1);
        x.sees(1, 2);
        whichDue(x, 1, 2);
        x.sees(2, 0);
        whichDue(x, 1, 2);
        x.sees(2, -1);
        whichDue(x, 0, NONE);
        x.forget();
        x.sees(2, -1);
        whichDue(x, 1, 1);
        x.forget();
        x.sees(2, 1);
        whichDue(x, 2, 0);
        x.strikes(0);
        whichDue(x, 1, 2);
        x.forget();
        x.sees(0, -1);
        whichDue(x, 0, NONE);
        Due.due("which(2)", x.which(2), BAD);
        Due.due("which(-1)", x.which(-1), BAD);
    }

    private static void images() {
        SceneShots x = Due.told("players 1 2 3 4;lines 011;shot 2 8 0 1 0 7 1;shot 2 2 1 1 0 7 2;");
        x.puts(0, 1);
        Due.due("back(0): none was kept", x.back(0), STATE);
        Due.due("keep(0)", x.keep(0), 2);
        Due.due("keep() is nothing to be undone", x.count(4), 2);
        Due.due("back(1): none was kept", x.back(1), STATE);
        Due.due("a refused back() changes nothing", x.count(4), 2);
        x.strikes(0);
        Due.due("keep(1)", x.keep(1), 1);
        Due.tell(x, "lines 1;");
        Due.type(x, "ab");
        x.sees(0, 0);
        Due.due("back(0)", x.back(0), 2);
        Due.due("text stays", x.count(3), 2);
        Due.due("seen stays", x.count(2), 1);
        Due.due("lines of the image", x.count(0), 3);
        Due.due("speakers of the image", x.line(0, 0), 0);
        Due.due("player of the image", x.player(1, 0), 3);
        Due.due("shot of the image", x.shot(1, 6), 2);
        Due.due("edit of the image", x.line(0, 1), 1);
        x.takes(0);
        Due.due("back(0) again: the image stays", x.back(0), 2);
        Due.due("edit of the image", x.line(0, 1), 1);
        Due.due("back(1)", x.back(1), 1);
        Due.due("edit of the other image", x.line(0, 1), 0);
        Due.due("keep(0) over it", x.keep(0), 1);
        Due.due("back(0)", x.back(0), 1);
        Due.due("keep(2)", x.keep(2), BAD);
        Due.due("keep(-1)", x.keep(-1), BAD);
        Due.due("back(2)", x.back(2), BAD);
        Due.due("back(-1)", x.back(-1), BAD);
        Due.due("keep(0) of a new object", new SceneShots().keep(0), 0);
    }

    private static void backEndsUndo() {
        SceneShots x = Due.told("lines 01;shot 2 8 0 1 0 7 1;");
        x.keep(0);
        x.puts(0, 0);
        x.puts(1, 0);
        Due.due("back(0)", x.back(0), 1);
        Due.due("count(4) behind back()", x.count(4), 0);
        Due.due("undo() behind back()", x.undo(), STATE);
        Due.due("nothing is changed", x.edit(0), 2);
        x.puts(1, 0);
        Due.due("undo() of what came behind back()", x.undo(), 0);
        Due.due("undo() of more", x.undo(), STATE);
        x.puts(1, 0);
        x.keep(0);
        x.undo();
        Due.due("an image is not undone", x.back(0), 1);
        Due.due("edit of the image", x.line(1, 1), 0);
    }

    private static void count() {
        SceneShots x = Due.told("lines 011;shot 2 8 0 1 0 7 1;shot 2 2 1 1 0 7 2;");
        Due.type(x, "abcd");
        x.sees(0, 0);
        x.puts(0, 0);
        int[] counts = {3, 2, 1, 4, 2};
        for (int what = 0; what < 5; what++) {
            Due.due("count(" + what + ")", x.count(what), counts[what]);
        }
        Due.due("count(5)", x.count(5), BAD);
        Due.due("count(-1)", x.count(-1), BAD);
        Due.due("count(most)", x.count(Integer.MAX_VALUE), BAD);
    }
}
