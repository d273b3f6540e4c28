/** Promises 5 to 13: what is done to THE EDIT and asked of it, and of LINES, SHOTS, PLAYERS. */
final class EditTest {
    private static final int BAD = SceneShots.BAD, STATE = SceneShots.STATE;
    private static final int NONE = SceneShots.NONE, NO = SceneShots.NO;
    /** SHOT 0 and 1 see a PLAYER each, 2 both from the same side, 3 both from the other side, on LINES 1, 2. */
    private static final String SCENE =
            "lines 0101;shot 2 8 0 1 0 3 3;shot 7 8 1 1 0 3 3;shot 4 9 2 5 0 7 7;shot 4 1 2 4 1 2 1;";

    public static void main(String[] args) {
        puts();
        takes();
        strikes();
        makes();
        undo();
        undoOfEach();
        line();
        shot();
        sides();
        near();
        tooLike();
        player();
        edit();
        Due.finish("EditTest");
    }

    private static void puts() {
        SceneShots x = Due.told(SCENE);
        Due.due("puts(0, 0)", x.puts(0, 0), NONE);
        Due.due("puts(0, 0) again", x.puts(0, 0), STATE);
        Due.due("puts(0, 2)", x.puts(0, 2), 0);
        Due.due("puts(0, 1)", x.puts(0, 1), 2);
        Due.due("line(0, 1)", x.line(0, 1), 1);
        Due.due("puts(0, 3): ahead of what it covers", x.puts(0, 3), STATE);
        Due.due("puts(3, 3): behind what it covers", x.puts(3, 3), STATE);
        Due.due("puts(1, 3): its first", x.puts(1, 3), NONE);
        Due.due("puts(2, 3): its last", x.puts(2, 3), NONE);
        Due.due("puts(4, 2): no such line", x.puts(4, 2), BAD);
        Due.due("puts(-1, 0)", x.puts(-1, 0), BAD);
        Due.due("puts(0, 4)", x.puts(0, 4), BAD);
        Due.due("puts(0, -1)", x.puts(0, -1), BAD);
        Due.due("puts(0, NONE)", x.puts(3, NONE), BAD);
        Due.due("puts(least, most)", x.puts(Integer.MIN_VALUE, Integer.MAX_VALUE), BAD);
        Due.due("refused ones are not counted", x.count(4), 6);
    }

    private static void takes() {
        SceneShots x = Due.told(SCENE);
        x.puts(3, 2);
        Due.due("takes(3)", x.takes(3), 2);
        Due.due("line(3, 1)", x.line(3, 1), NONE);
        Due.due("takes(3) again", x.takes(3), STATE);
        Due.due("takes(0)", x.takes(0), STATE);
        Due.due("takes(4)", x.takes(4), BAD);
        Due.due("takes(-1)", x.takes(-1), BAD);
        Due.due("takes(most)", x.takes(Integer.MAX_VALUE), BAD);
        Due.due("refused ones are not counted", x.count(4), 3);
    }

    private static void strikes() {
        SceneShots x = Due.told(SCENE);
        x.puts(0, 0);
        x.puts(1, 1);
        x.puts(2, 3);
        x.puts(3, 1);
        Due.due("strikes(1)", x.strikes(1), 2);
        int[] shots = {0, NONE, 2, NONE};
        for (int line = 0; line < 4; line++) {
            Due.due("struck: line(" + line + ", 1)", x.line(line, 1), shots[line]);
        }
        Due.due("struck: shots", x.count(1), 3);
        Due.due("struck: shot(0, 0)", x.shot(0, 0), 2);
        Due.due("struck: shot(1, 6)", x.shot(1, 6), 7);
        Due.due("struck: shot(2, 1)", x.shot(2, 1), 1);
        Due.due("struck: shot(3, 0)", x.shot(3, 0), NO);
        Due.due("struck: line(1, 3)", x.line(1, 3), 7);
        Due.due("strikes(3)", x.strikes(3), BAD);
        Due.due("strikes(-1)", x.strikes(-1), BAD);
        Due.due("strikes(NONE)", x.strikes(NONE), BAD);
        Due.due("strikes(2): the last", x.strikes(2), 1);
        Due.due("strikes(1): unused", x.strikes(1), 0);
        Due.due("strikes(0)", x.strikes(0), 1);
        Due.due("strikes(0): none", x.strikes(0), BAD);
        Due.due("all is struck", x.edit(0), 4);
        Due.due("strikes that took nothing count", x.undo(), 7);
    }

    private static void makes() {
        SceneShots x = Due.told(SCENE);
        Due.due("makes()", x.makes(), 4);
        Due.due("made: shots used", x.edit(4), 1);
        Due.due("makes() again", x.makes(), STATE);
        x.puts(2, 1);
        x.puts(3, 1);
        x.takes(0);
        Due.due("makes() of three", x.makes(), 3);
        Due.due("makes() counts once", x.count(4), 6);
        Due.due("undo() of makes()", x.undo(), 5);
        Due.due("line(0, 1) as ahead of it", x.line(0, 1), NONE);
        Due.due("line(2, 1) as ahead of it", x.line(2, 1), 1);
        SceneShots none = Due.told("lines 00;shot 2 8 1 1 0 7 3;");
        Due.due("makes() without a whole edit", none.makes(), STATE);
        Due.due("nothing is done", none.count(4), 1);
        SceneShots empty = Due.told("shot 2 8 1 1 0 7 3;");
        Due.due("makes() without lines", empty.makes(), STATE);
    }

    private static void undo() {
        SceneShots x = new SceneShots();
        Due.due("undo(): none", x.undo(), STATE);
        Due.tell(x, SCENE);
        for (int at = 0; at < 9; at++) {
            x.puts(0, at % 3);
            Due.due("known", x.count(4), Math.min(at + 2, 8));
        }
        for (int more = 7; more >= 0; more--) {
            Due.due("undo(): shot ahead", x.line(0, 1), (more + 1) % 3);
            Due.due("undo(): more", x.undo(), more);
        }
        Due.due("the ninth is lost", x.undo(), STATE);
        Due.due("what is left", x.line(0, 1), 0);
        Due.due("puts behind undo", x.puts(0, 2), 0);
        Due.due("known behind it", x.count(4), 1);
        Due.due("undo() of it", x.undo(), 0);
        Due.due("what is left", x.line(0, 1), 0);
    }

    private static void undoOfEach() {
        SceneShots x = Due.told("players 1 2 3 4;" + SCENE);
        x.puts(1, 3);
        Due.tell(x, "lines 1;");
        Due.type(x, "abc");
        x.sees(1, 1);
        Due.due("undo() of tells()", x.undo(), 2);
        Due.due("the text is not undone", x.count(3), 3);
        Due.due("seen is not undone", x.count(2), 1);
        Due.due("players undone", x.player(1, 1), 4);
        Due.due("lines undone", x.count(0), 4);
        Due.due("speakers undone", x.line(0, 0), 0);
        Due.due("shots undone", x.shot(3, 4), 1);
        Due.due("edit undone", x.line(1, 1), 3);
        x.takes(1);
        Due.due("undo() of takes()", x.undo(), 2);
        Due.due("edit undone", x.line(1, 1), 3);
        x.strikes(0);
        Due.due("undo() of strikes()", x.undo(), 2);
        Due.due("edit undone", x.line(1, 1), 3);
        Due.due("shots undone", x.count(1), 4);
        Due.due("shots undone", x.shot(0, 0), 2);
        Due.due("undo() of puts()", x.undo(), 1);
        Due.due("edit undone", x.line(1, 1), NONE);
        Due.due("undo() of the first tells()", x.undo(), 0);
        Due.due("as at first", x.count(0), 0);
        Due.due("as at first", x.count(1), 0);
        Due.due("as at first", x.player(0, 0), 3);
    }

    private static void line() {
        SceneShots x = Due.told(SCENE);
        Due.due("line(1, 0)", x.line(1, 0), 1);
        Due.due("line(2, 0)", x.line(2, 0), 0);
        Due.due("line(0, 1)", x.line(0, 1), NONE);
        Due.due("line(0, 2): no shot", x.line(0, 2), 0);
        Due.due("line(0, 3)", x.line(0, 3), 7);
        Due.due("line(1, 3)", x.line(1, 3), 15);
        Due.due("line(2, 3)", x.line(2, 3), 15);
        Due.due("line(3, 3)", x.line(3, 3), 7);
        int[][] reactions = {{0, 1, 0}, {1, 0, 0}};
        for (int line = 0; line < 2; line++) {
            for (int shot = 0; shot < 3; shot++) {
                x.puts(line, shot);
                Due.due("line(" + line + ", 2) by shot " + shot, x.line(line, 2), reactions[line][shot]);
            }
        }
        Due.due("line(0, 4)", x.line(0, 4), BAD);
        Due.due("line(0, -1)", x.line(0, -1), BAD);
        Due.due("line(4, 0)", x.line(4, 0), BAD);
        Due.due("line(-1, 0)", x.line(-1, 0), BAD);
        Due.due("line(most, 1)", x.line(Integer.MAX_VALUE, 1), BAD);
    }

    private static void shot() {
        SceneShots x = Due.told(SCENE);
        Due.due("shot(0, 8)", x.shot(0, 8), -5);
        Due.due("shot(0, 9)", x.shot(0, 9), 6);
        Due.due("shot(3, 8)", x.shot(3, 8), -1);
        Due.due("shot(3, 9)", x.shot(3, 9), -8);
        Due.due("shot(0, 10)", x.shot(0, 10), 6);
        Due.due("shot(1, 10)", x.shot(1, 10), 5);
        Due.due("shot(2, 10)", x.shot(2, 10), 3);
        Due.due("shot(3, 10)", x.shot(3, 10), 0);
        Due.due("shot(0, 11)", x.shot(0, 11), NO);
        Due.due("shot(0, -1)", x.shot(0, -1), NO);
        Due.due("shot(4, 0)", x.shot(4, 0), NO);
        Due.due("shot(-1, 0)", x.shot(-1, 0), NO);
        Due.due("shot(least, 0)", x.shot(Integer.MIN_VALUE, 0), NO);
        Due.due("shot(0, least)", x.shot(0, Integer.MIN_VALUE), NO);
        SceneShots far = Due.told("players 9 9 8 9;shot 0 0 0 1 0 0 1;");
        Due.due("way to the far corner", far.shot(0, 8), -17);
        Due.due("way to the far corner", far.shot(0, 9), -18);
    }

    private static void sides() {
        SceneShots x = Due.told("players 1 1 4 3;shot 4 4 0 1 0 0 1;shot 4 2 0 1 0 0 1;shot 7 5 0 1 0 0 1;"
                + "shot 1 1 0 1 0 0 1;shot 0 0 0 1 0 0 1;shot 0 1 0 1 0 0 1;");
        int[] sides = {1, -1, 0, 0, -1, 1};
        for (int shot = 0; shot < 6; shot++) {
            Due.due("side of shot " + shot, x.shot(shot, 7), sides[shot]);
        }
        SceneShots turned = Due.told("players 4 3 1 1;shot 4 4 0 1 0 0 1;shot 4 2 0 1 0 0 1;");
        Due.due("side, players turned", turned.shot(0, 7), -1);
        Due.due("side, players turned", turned.shot(1, 7), 1);
        SceneShots uneven = Due.told("players 2 7 5 1;shot 2 3 0 1 0 0 1;shot 4 3 0 1 0 0 1;shot 3 5 0 1 0 0 1;"
                + "shot 1 9 0 1 0 0 1;shot 0 9 0 1 0 0 1;shot 9 0 0 1 0 0 1;");
        int[] unevenSides = {-1, 0, 0, 0, -1, 1};
        for (int shot = 0; shot < 6; shot++) {
            Due.due("side of shot " + shot + ", uneven", uneven.shot(shot, 7), unevenSides[shot]);
        }
        SceneShots across = Due.told("shot 1 7 0 1 0 0 1;shot 8 1 1 5 0 0 1;shot 0 5 2 3 0 0 1;");
        Due.due("side 1: only with 0", across.shot(0, 10), 4);
        Due.due("side -1: only with 0", across.shot(1, 10), 4);
        Due.due("side 0: with both", across.shot(2, 10), 3);
    }

    /** PLAYERS about 5, 5: WAYS are twice what the cameras are away from there. */
    private static boolean near(String one, String other) {
        SceneShots x = Due.told("players 4 5 6 5;shot " + one + " 0 3 0 0 1;shot " + other + " 0 3 0 0 1;");
        Due.due("cut either way about, " + one + ", " + other, x.shot(1, 10) == 1 ? 2 : 0, x.shot(0, 10));
        return x.shot(0, 10) == 0;
    }

    private static void nearDue(String one, String other, boolean want) {
        Due.due("near " + one + " and " + other, near(one, other) ? 1 : 0, want ? 1 : 0);
    }

    private static void near() {
        nearDue("9 5", "9 7", true);
        nearDue("9 5", "9 8", false);
        nearDue("9 8", "7 9", true);
        nearDue("7 9", "6 9", true);
        nearDue("6 6", "9 9", true);
        nearDue("5 9", "7 8", false);
        nearDue("9 5", "6 5", true);
        nearDue("9 5", "1 5", false);
        nearDue("5 5", "9 9", true);
        nearDue("5 5", "1 1", true);
        nearDue("5 5", "5 5", true);
        nearDue("5 5", "1 5", true);
        nearDue("5 9", "9 5", false);
        nearDue("9 9", "9 6", false);
        nearDue("8 8", "8 8", true);
        SceneShots shortest = Due.told("shot 5 5 0 3 0 0 1;shot 5 5 0 3 0 0 1;shot 4 5 0 3 0 0 1;shot 5 6 0 3 0 0 1;");
        Due.due("near by ways of 1, 0", shortest.shot(0, 10), 4 + 8);
    }

    private static void tooLike() {
        SceneShots x = Due.told("shot 1 7 0 3 0 0 1;shot 1 7 0 4 0 0 1;shot 1 7 0 5 0 0 1;shot 1 7 0 2 0 0 1;"
                + "shot 1 7 1 3 0 0 1;shot 8 7 0 3 0 0 1;");
        Due.due("sizes 3: 2 apart, another aim, another way", x.shot(0, 10), 4 + 16 + 32);
        Due.due("sizes 4", x.shot(1, 10), 8 + 16 + 32);
        Due.due("sizes 5", x.shot(2, 10), 1 + 8 + 16 + 32);
        Due.due("sizes 2", x.shot(3, 10), 2 + 4 + 16 + 32);
        Due.due("aim 1", x.shot(4, 10), 1 + 2 + 4 + 8 + 32);
        Due.due("another way", x.shot(5, 10), 1 + 2 + 4 + 8 + 16);
    }

    private static void player() {
        SceneShots x = Due.told("players 0 9 8 7;");
        Due.due("player(0, 0)", x.player(0, 0), 0);
        Due.due("player(0, 1)", x.player(0, 1), 9);
        Due.due("player(1, 0)", x.player(1, 0), 8);
        Due.due("player(1, 1)", x.player(1, 1), 7);
        Due.due("player(2, 0)", x.player(2, 0), BAD);
        Due.due("player(-1, 0)", x.player(-1, 0), BAD);
        Due.due("player(0, 2)", x.player(0, 2), BAD);
        Due.due("player(0, -1)", x.player(0, -1), BAD);
        Due.due("player(-1, 2)", x.player(-1, 2), BAD);
    }

    private static void edits(SceneShots x, int... want) {
        for (int what = 0; what < 5; what++) {
            Due.due("edit(" + what + ")", x.edit(what), want[what]);
        }
    }

    private static void edit() {
        SceneShots x = Due.told(SCENE);
        edits(x, 4, 0, 0, 0, 0);
        x.puts(0, 1);
        edits(x, 3, 0, 0, 0, 1);
        x.puts(2, 3);
        edits(x, 2, 0, 0, 0, 2);
        x.puts(1, 0);
        edits(x, 1, 1, 1, 2, 3);
        x.puts(2, 1);
        edits(x, 1, 0, 2, 2, 2);
        x.puts(3, 1);
        edits(x, 0, 0, 2, 2, 2);
        x.takes(1);
        edits(x, 1, 0, 0, 0, 1);
        Due.due("edit(5)", x.edit(5), BAD);
        Due.due("edit(-1)", x.edit(-1), BAD);
        Due.due("edit(most)", x.edit(Integer.MAX_VALUE), BAD);
        SceneShots twins = Due.told("lines 00;shot 2 8 0 1 0 3 3;shot 2 8 0 1 0 3 3;");
        twins.puts(0, 0);
        twins.puts(1, 1);
        edits(twins, 0, 1, 0, 1, 2);
        twins.puts(1, 0);
        edits(twins, 0, 0, 0, 0, 1);
    }
}
