/** Edges of promises 10 to 13: what is asked of LINES, SHOTS, PLAYERS, THE EDIT. */
final class EdgeAskedTest {
    private static final int BAD = SceneShots.BAD, NONE = SceneShots.NONE, NO = SceneShots.NO;
    private static final String SIX = Edges.SIX_SHOTS_EIGHT_LINES;

    public static void main(String[] args) throws IllegalAccessException {
        Edges.run(EdgeAskedTest.class);
    }

    // ---- line

    static void promise10_whoSaysLines0To7() {
        SceneShots x = Due.told(SIX);
        String speakers = "01100101";
        for (int line = 0; line < 8; line++) {
            Due.due("line(" + line + ", 0)", x.line(line, 0), speakers.charAt(line) - '0');
        }
        for (int what = 0; what < 4; what++) {
            Due.due("line(-1, " + what + ")", x.line(-1, what), BAD);
            Due.due("line(8, " + what + ")", x.line(8, what), BAD);
        }
    }

    static void promise10_theFirstThatIsNoLineIsBad() {
        for (int lines = 1; lines < 8; lines++) {
            SceneShots x = Due.told("lines " + "1".repeat(lines) + ";shot 2 8 0 1 0 7 3;");
            Due.due("the last", x.line(lines - 1, 0), 1);
            Due.due("one behind it", x.line(lines, 0), BAD);
            Due.due("one behind it, though covered", x.line(lines, 3), BAD);
        }
        Due.due("no lines", Due.told("shot 2 8 0 1 0 7 3;").line(0, 3), BAD);
    }

    static void promise10_whatIs0To3() {
        SceneShots x = Due.told(SIX);
        for (int line = -1; line <= 8; line++) {
            Due.due("line(" + line + ", -1)", x.line(line, -1), BAD);
            Due.due("line(" + line + ", 4)", x.line(line, 4), BAD);
            for (int far : Edges.FAR) {
                Due.due("line(" + line + ", " + far + ")", x.line(line, far), BAD);
                Due.due("line(" + far + ", 0)", x.line(far, 0), BAD);
            }
        }
    }

    static void promise10_itsShotOrNone() {
        SceneShots x = Due.told(SIX);
        for (int line = 0; line < 8; line++) {
            Due.due("line(" + line + ", 1)", x.line(line, 1), NONE);
        }
        x.puts(7, 4);
        x.puts(0, 5);
        Due.due("line(7, 1)", x.line(7, 1), 4);
        Due.due("line(0, 1)", x.line(0, 1), 5);
        x.takes(7);
        Due.due("line(7, 1)", x.line(7, 1), NONE);
    }

    /** AIM 2 sees the other PLAYER, too, but is not that PLAYER. */
    static void promise10_reactions() {
        SceneShots x = Due.told("lines 01;shot 2 8 0 1 0 7 3;shot 2 8 1 1 0 7 3;shot 2 8 2 1 0 7 3;");
        Due.due("line(0, 2), that has none", x.line(0, 2), 0);
        Due.due("line(1, 2), that has none", x.line(1, 2), 0);
        int[][] reactions = {{0, 1, 0}, {1, 0, 0}};
        for (int line = 0; line < 2; line++) {
            for (int shot = 0; shot < 3; shot++) {
                x.puts(line, shot);
                Due.due("line(" + line + ", 2) by " + shot, x.line(line, 2), reactions[line][shot]);
            }
            x.takes(line);
            Due.due("line(" + line + ", 2), taken from", x.line(line, 2), 0);
        }
    }

    static void promise10_shotsThatCoverIt() {
        SceneShots x = Due.told(SIX);
        int[] bits = {33, 3, 7, 15, 7, 7, 3, 17};
        for (int line = 0; line < 8; line++) {
            Due.due("line(" + line + ", 3)", x.line(line, 3), bits[line]);
        }
        Due.due("none", Due.told("lines 01;shot 2 8 0 1 1 7 3;").line(0, 3), 0);
        Due.due("no shots", Due.told("lines 01;").line(0, 3), 0);
        Due.due("all six", Due.told("lines0;" + "shot2 8 0 1 0 0 3;".repeat(6)).line(0, 3), 63);
    }

    static void promise10_askedNothingChanges() {
        for (int what = -1; what <= 4; what++) {
            int asked = what;
            int[] answers = {BAD, 1, 0, 0, 7, BAD};
            Edges.leavesAll("line(1, " + asked + ")", Edges::rich, x -> x.line(1, asked), answers[what + 1]);
        }
        Edges.leavesAll("line(4, 0)", Edges::rich, x -> x.line(4, 0), BAD);
    }

    // ---- shot

    static void promise11_shots0To5() {
        SceneShots x = Due.told(SIX);
        String[] figures = {"1801071", "2812162", "3823253", "4804334", "5815775", "6821006"};
        for (int shot = 0; shot < 6; shot++) {
            for (int what = 0; what < 7; what++) {
                Due.due("shot(" + shot + ", " + what + ")", x.shot(shot, what), figures[shot].charAt(what) - '0');
            }
        }
        for (int what = 0; what <= 10; what++) {
            Due.due("shot(-1, " + what + ")", x.shot(-1, what), NO);
            Due.due("shot(6, " + what + ")", x.shot(6, what), NO);
        }
    }

    static void promise11_theFirstThatIsNoShotIsBad() {
        for (int shots = 0; shots < 6; shots++) {
            SceneShots x = Due.told("shot1 8 0 1 0 7 1;".repeat(shots));
            Due.due("the last", x.shot(shots - 1, 6), shots == 0 ? NO : 1);
            Due.due("one behind it", x.shot(shots, 6), NO);
        }
        SceneShots struck = Due.told("shot1 8 0 1 0 7 1;".repeat(2));
        struck.strikes(0);
        Due.due("shot(0, 6)", struck.shot(0, 6), 1);
        Due.due("shot(1, 6), that moved up", struck.shot(1, 6), NO);
    }

    static void promise11_whatIs0To10() {
        SceneShots x = Due.told(SIX);
        for (int shot = -1; shot <= 6; shot++) {
            Due.due("shot(" + shot + ", -1)", x.shot(shot, -1), NO);
            Due.due("shot(" + shot + ", 11)", x.shot(shot, 11), NO);
            for (int far : Edges.FAR) {
                Due.due("shot(" + shot + ", " + far + ")", x.shot(shot, far), NO);
                Due.due("shot(" + far + ", 0)", x.shot(far, 0), NO);
            }
        }
    }

    static void promise11_waysUpTo18() {
        SceneShots high = Due.told("players 0 0 0 1;shot 9 9 0 1 0 7 1;shot 0 0 0 1 0 7 1;");
        Due.due("shot(0, 8)", high.shot(0, 8), 18);
        Due.due("shot(0, 9)", high.shot(0, 9), 17);
        Due.due("shot(1, 8)", high.shot(1, 8), 0);
        Due.due("shot(1, 9)", high.shot(1, 9), -1);
        SceneShots low = Due.told("players 8 9 9 9;shot 0 0 0 1 0 7 1;shot 9 9 0 1 0 7 1;");
        Due.due("shot(0, 8)", low.shot(0, 8), -17);
        Due.due("shot(0, 9)", low.shot(0, 9), -18);
        Due.due("shot(1, 8)", low.shot(1, 8), 1);
        Due.due("shot(1, 9)", low.shot(1, 9), 0);
    }

    /** -1 is an answer there, so what is BAD is NO. */
    static void promise11_waysAndSidesOfMinus1() {
        SceneShots x = Due.told("players 3 5 6 4;shot 4 4 0 1 0 7 1;");
        Due.due("shot(0, 7)", x.shot(0, 7), -1);
        Due.due("shot(0, 8)", x.shot(0, 8), -1);
        Due.due("shot(0, 9)", x.shot(0, 9), -1);
        Due.due("shot(1, 7)", x.shot(1, 7), NO);
    }

    private static int side(String players, String camera) {
        return Due.told("players " + players + ";shot " + camera + " 0 1 0 7 1;").shot(0, 7);
    }

    /** 9 d less 8 c is just 1, -1 or 0. */
    static void promise11_sidesByTheLeast() {
        String[] cameras = {"1 1", "8 7", "0 0", "9 8", "9 9", "9 7", "0 1", "1 0"};
        int[] sides = {1, -1, 0, 0, 1, -1, 1, -1};
        for (int at = 0; at < cameras.length; at++) {
            Due.due("side of " + cameras[at], side("0 0 9 8", cameras[at]), sides[at]);
            Due.due("side of " + cameras[at] + ", players turned", side("9 8 0 0", cameras[at]), -sides[at]);
        }
    }

    static void promise11_side0AllAlongTheAxis() {
        for (int at = 0; at <= 9; at++) {
            Due.due("on it", side("3 5 6 5", at + " 5"), 0);
            Due.due("above it", side("3 5 6 5", at + " 6"), 1);
            Due.due("below it", side("3 5 6 5", at + " 4"), -1);
            Due.due("on it, upright", side("4 2 4 7", "4 " + at), 0);
            Due.due("left of it, upright", side("4 2 4 7", "3 " + at), 1);
            Due.due("right of it, upright", side("4 2 4 7", "5 " + at), -1);
            Due.due("on it, aslant", side("2 2 5 5", at + " " + at), 0);
            Due.due("on it, down", side("1 8 3 6", at + " " + (9 - at)), 0);
        }
    }

    /** SHOTS 0, 1 of SIDE 1; 2, 3 of SIDE 0; 4, 5 of SIDE -1. */
    static void promise11_cutsByTheirSides() {
        SceneShots x = Due.told("shot1 7 0 1 0 7 1;shot8 7 1 1 0 7 1;shot0 5 2 1 0 7 1;shot9 5 2 1 0 7 1;"
                + "shot1 2 0 5 0 7 1;shot8 2 1 5 0 7 1;");
        int[] bits = {14, 13, 59, 55, 44, 28};
        for (int shot = 0; shot < 6; shot++) {
            Due.due("shot(" + shot + ", 10)", x.shot(shot, 10), bits[shot]);
        }
    }

    static void promise11_cutsBySizes2Apart() {
        SceneShots x = Due.told("shot1 7 0 1 0 7 1;shot1 7 0 2 0 7 1;shot1 7 0 3 0 7 1;shot1 7 0 4 0 7 1;"
                + "shot1 7 0 5 0 7 1;shot1 7 0 3 0 7 1;");
        int[] bits = {4 + 8 + 16 + 32, 8 + 16, 1 + 16, 1 + 2, 1 + 2 + 4 + 32, 1 + 16};
        for (int shot = 0; shot < 6; shot++) {
            Due.due("shot(" + shot + ", 10)", x.shot(shot, 10), bits[shot]);
        }
    }

    static void promise11_cutsByAim() {
        SceneShots x = Due.told("shot1 7 0 3 0 7 1;shot1 7 1 3 0 7 1;shot1 7 2 3 0 7 1;shot1 7 2 3 0 7 1;");
        int[] bits = {2 + 4 + 8, 1 + 4 + 8, 1 + 2, 1 + 2};
        for (int shot = 0; shot < 4; shot++) {
            Due.due("shot(" + shot + ", 10)", x.shot(shot, 10), bits[shot]);
        }
    }

    static void promise11_noneWithItself() {
        Due.due("one shot", Due.told("shot1 7 0 1 0 7 1;").shot(0, 10), 0);
        SceneShots six = Due.told("shot1 7 0 1 0 7 1;shot1 7 1 1 0 7 1;shot1 7 2 1 0 7 1;shot1 7 0 5 0 7 1;"
                + "shot1 7 1 5 0 7 1;shot1 7 2 5 0 7 1;");
        for (int shot = 0; shot < 6; shot++) {
            Due.due("shot(" + shot + ", 10)", six.shot(shot, 10), 63 - (1 << shot));
        }
    }

    /** Two of one AIM and SIZE that are not across the axis can be CUT together if they are not NEAR. */
    private static void near(String players, String one, String other, boolean want) {
        SceneShots x = Due.told("players " + players + ";shot " + one + " 0 3 0 0 1;shot " + other + " 0 3 0 0 1;");
        Due.due("near " + one + ", " + other, x.shot(0, 10), want ? 0 : 2);
        Due.due("near " + other + ", " + one, x.shot(1, 10), want ? 0 : 1);
    }

    static void promise11_nearJustAtItsBound() {
        near("9 9 8 9", "5 3", "5 7", true);
        near("3 5 9 6", "0 2", "4 2", true);
        near("3 5 6 5", "3 1", "5 2", false);
        near("4 5 6 5", "6 5", "7 6", true);
        near("4 5 6 5", "7 6", "7 8", true);
        near("4 5 6 5", "6 5", "6 6", false);
        near("4 5 6 5", "6 6", "6 9", false);
    }

    static void promise11_nearJustIfPIsAbove0() {
        near("4 5 6 5", "9 5", "5 9", false);
        near("4 5 6 5", "9 5", "0 5", false);
        near("4 5 6 5", "6 5", "4 5", false);
        near("3 5 6 5", "5 5", "4 5", false);
        near("4 4 4 5", "4 5", "4 4", false);
        near("4 5 6 5", "9 5", "6 5", true);
        near("4 5 6 5", "9 9", "9 9", true);
        near("3 5 6 5", "5 5", "5 5", true);
        near("4 4 4 5", "4 5", "4 5", true);
    }

    static void promise11_aWayOf00IsNearAll() {
        for (String other : new String[] {"0 0", "9 9", "0 9", "9 0", "5 5", "5 9", "0 5", "5 0", "9 5", "4 5"}) {
            near("4 4 6 6", "5 5", other, true);
            near("4 5 6 5", other, "5 5", true);
        }
    }

    static void promise11_aWayOfOne0IsNotNearAll() {
        near("4 5 6 5", "5 9", "9 6", false);
        near("4 5 6 5", "9 5", "6 9", false);
        near("3 5 6 5", "5 5", "5 6", false);
    }

    static void promise11_askedNothingChanges() {
        int[] answers = {NO, 5, 6, 2, 3, 1, 7, 8, 0, 6, 6, 6, NO};
        for (int what = -1; what <= 11; what++) {
            int asked = what;
            Edges.leavesAll("shot(0, " + asked + ")", Edges::rich, x -> x.shot(0, asked), answers[what + 1]);
        }
        Edges.leavesAll("shot(3, 0)", Edges::rich, x -> x.shot(3, 0), NO);
    }

    // ---- player

    static void promise12_players0And1() {
        SceneShots x = Due.told("players 0 9 9 0;");
        int[] places = {0, 9, 9, 0};
        for (int player = -1; player <= 2; player++) {
            for (int what = -1; what <= 2; what++) {
                boolean there = player >= 0 && player <= 1 && what >= 0 && what <= 1;
                Due.due("player(" + player + ", " + what + ")", x.player(player, what),
                        there ? places[2 * player + what] : BAD);
            }
        }
        for (int far : Edges.FAR) {
            Due.due("player(" + far + ", 0)", x.player(far, 0), BAD);
            Due.due("player(0, " + far + ")", x.player(0, far), BAD);
        }
    }

    static void promise12_askedNothingChanges() {
        Edges.leavesAll("player(1, 0)", Edges::rich, x -> x.player(1, 0), 3);
        Edges.leavesAll("player(2, 0)", Edges::rich, x -> x.player(2, 0), BAD);
        Edges.leavesAll("player(0, -1)", Edges::rich, x -> x.player(0, -1), BAD);
    }

    // ---- edit

    private static void edits(SceneShots x, int... want) {
        for (int what = 0; what < 5; what++) {
            Due.due("edit(" + what + ")", x.edit(what), want[what]);
        }
    }

    static void promise13_whatIs0To4() {
        SceneShots x = Due.told(SIX);
        Due.due("edit(-1)", x.edit(-1), BAD);
        edits(x, 8, 0, 0, 0, 0);
        Due.due("edit(5)", x.edit(5), BAD);
        for (int far : Edges.FAR) {
            Due.due("edit(" + far + ")", x.edit(far), BAD);
        }
        Due.due("edit(5) without lines", new SceneShots().edit(5), BAD);
    }

    static void promise13_withoutLinesNothingIsAmiss() {
        edits(new SceneShots(), 0, 0, 0, 0, 0);
        edits(Due.told("shot1 8 0 1 0 7 1;"), 0, 0, 0, 0, 0);
    }

    static void promise13_anEditThatIsNoneEverywhere() {
        for (int lines = 1; lines <= 8; lines++) {
            edits(Due.told("lines " + "0".repeat(lines) + ";"), lines, 0, 0, 0, 0);
        }
    }

    static void promise13_oneLine() {
        SceneShots x = Due.told("lines 0;shot1 8 1 1 0 7 1;");
        x.puts(0, 0);
        edits(x, 0, 0, 0, 0, 1);
    }

    /** SHOTS 0, 1 are alike in all that is told of them, but unlike as SHOTS. */
    static void promise13_allSevenPairs() {
        SceneShots x = Due.told("lines 00000000;shot1 8 1 1 0 7 1;shot1 8 1 1 0 7 1;");
        for (int line = 0; line < 8; line++) {
            x.puts(line, line % 2);
            edits(x, 7 - line, line, line, line, Math.min(line + 1, 2));
        }
        for (int line = 1; line < 8; line += 2) {
            x.puts(line, 0);
        }
        edits(x, 0, 0, 7, 0, 1);
    }

    static void promise13_sixShotsAreUsed() {
        SceneShots x = Due.told("lines01010101;" + "shot1 8 2 1 0 7 1;".repeat(6));
        for (int line = 0; line < 6; line++) {
            x.puts(line, line);
            Due.due("edit(4)", x.edit(4), line + 1);
        }
        x.puts(6, 0);
        x.puts(7, 5);
        edits(x, 0, 7, 0, 7, 6);
    }

    static void promise13_linesApartAreNoPair() {
        SceneShots x = Due.told("lines 000;shot1 8 1 1 0 7 1;shot1 8 1 1 0 7 1;");
        x.puts(0, 0);
        x.puts(2, 1);
        edits(x, 1, 0, 0, 0, 2);
    }

    static void promise13_theLastAndTheFirstAreNoPair() {
        SceneShots x = Due.told("lines 00000000;shot1 8 1 1 0 7 1;shot1 8 1 1 0 7 1;");
        x.puts(0, 0);
        x.puts(7, 1);
        edits(x, 6, 0, 0, 0, 2);
    }

    static void promise13_theFirstAndTheLastPair() {
        SceneShots x = Due.told("lines 00000000;shot1 8 1 1 0 7 1;shot1 8 1 1 0 7 1;");
        x.puts(0, 0);
        x.puts(1, 1);
        edits(x, 6, 1, 1, 1, 2);
        SceneShots y = Due.told("lines 00000000;shot1 8 1 1 0 7 1;shot1 8 1 1 0 7 1;");
        y.puts(6, 0);
        y.puts(7, 1);
        edits(y, 6, 1, 1, 1, 2);
    }

    static void promise13_cutsThatAreNotAmiss() {
        SceneShots x = Due.told("lines 0110;shot1 8 0 1 0 7 1;shot7 8 1 1 0 7 1;shot7 2 1 1 0 7 1;");
        x.puts(0, 0);
        x.puts(1, 1);
        edits(x, 2, 0, 0, 1, 2);
        x.puts(1, 2);
        edits(x, 2, 1, 0, 1, 2);
        x.puts(1, 0);
        edits(x, 2, 0, 0, 0, 1);
    }

    /** With REACTIONS at LINES 0 and 1 one is AMISS, with one of them none. */
    static void promise13_bothMustBeReactions() {
        SceneShots x = Due.told("lines 01;shot1 8 0 1 0 7 1;shot7 8 1 1 0 7 1;");
        int[][] shots = {{0, 0}, {0, 1}, {1, 0}, {1, 1}};
        int[] reactions = {0, 0, 1, 0};
        for (int at = 0; at < 4; at++) {
            x.puts(0, shots[at][0]);
            x.puts(1, shots[at][1]);
            Due.due("edit(2)", x.edit(2), reactions[at]);
        }
    }

    static void promise13_askedNothingChanges() {
        int[] answers = {BAD, 2, 0, 0, 1, 2, BAD};
        for (int what = -1; what <= 5; what++) {
            int asked = what;
            Edges.leavesAll("edit(" + asked + ")", Edges::rich, x -> x.edit(asked), answers[what + 1]);
        }
    }
}
