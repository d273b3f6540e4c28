import java.util.function.Consumer;

/** Edges of promises 20 to 22: keep, back, count. */
final class EdgeImageTest {
    private static final int BAD = SceneShots.BAD, STATE = SceneShots.STATE, NONE = SceneShots.NONE;
    private static final String SHOT = "shot1 2 0 1 0 7 9;";
    private static final String SIX = Edges.SIX_SHOTS_EIGHT_LINES;

    public static void main(String[] args) throws IllegalAccessException {
        Edges.run(EdgeImageTest.class);
    }

    // ---- keep

    static void promise20_images0And1AreTaken() {
        SceneShots x = Due.told(SHOT);
        Due.due("keep(-1)", x.keep(-1), BAD);
        Due.due("keep(0)", x.keep(0), 1);
        Due.due("keep(1)", x.keep(1), 1);
        Due.due("keep(2)", x.keep(2), BAD);
    }

    static void promise20_badChangesNothing() {
        Edges.refusedWhenRich("keep(-1)", x -> x.keep(-1), BAD);
        Edges.refusedWhenRich("keep(2)", x -> x.keep(2), BAD);
        for (int far : Edges.FAR) {
            Edges.refusedWhenRich("keep(" + far + ")", x -> x.keep(far), BAD);
        }
    }

    static void promise20_howManyShots() {
        for (int shots = 0; shots <= 6; shots++) {
            SceneShots x = Due.told(SHOT.repeat(shots));
            Due.due("keep(0)", x.keep(0), shots);
            Due.due("keep(1)", x.keep(1), shots);
        }
        Due.due("keep(0) of a new object", new SceneShots().keep(0), 0);
    }

    /** What was kept before is gone, the other image stays. */
    static void promise20_keptAnew() {
        SceneShots x = Due.told("lines 0;" + SHOT);
        x.keep(0);
        x.keep(1);
        Due.tell(x, SIX);
        Due.due("keep(0)", x.keep(0), 6);
        Due.due("back(1)", x.back(1), 1);
        Due.due("back(0)", x.back(0), 6);
        Due.due("keep(1)", x.keep(1), 6);
        Due.due("back(1)", x.back(1), 6);
    }

    static void promise20_nothingElseIsChanged() {
        Edges.leavesAll("keep(0) of what is kept there", x -> {
            Edges.rich(x);
            x.keep(0);
        }, x -> x.keep(0), 3);
        SceneShots x = new SceneShots();
        Edges.rich(x);
        SceneShots y = new SceneShots();
        Edges.rich(y);
        y.keep(0);
        y.keep(1);
        Shown.sameScene("keep()", x, y);
        for (int what = 2; what < 5; what++) {
            Due.due("count(" + what + ")", y.count(what), x.count(what));
        }
        while (x.count(4) > 0) {
            Due.due("undo()", y.undo(), x.undo());
        }
        Shown.sameScene("keep(), all undone", x, y);
    }

    // ---- back

    static void promise21_images0And1AreTaken() {
        SceneShots x = Due.told(SHOT);
        x.keep(0);
        x.keep(1);
        Due.due("back(-1)", x.back(-1), BAD);
        Due.due("back(0)", x.back(0), 1);
        Due.due("back(1)", x.back(1), 1);
        Due.due("back(2)", x.back(2), BAD);
    }

    static void promise21_badChangesNothing() {
        Edges.refusedWhenRich("back(-1)", x -> x.back(-1), BAD);
        Edges.refusedWhenRich("back(2)", x -> x.back(2), BAD);
        for (int far : Edges.FAR) {
            Edges.refusedWhenRich("back(" + far + ")", x -> x.back(far), BAD);
        }
    }

    static void promise21_stateIfNoneWasKept() {
        Consumer<SceneShots> noImage = Edges::full;
        Edges.refused("back(0)", noImage, x -> x.back(0), STATE);
        Edges.refused("back(1)", noImage, x -> x.back(1), STATE);
        Edges.refused("back(1), 0 being kept", noImage.andThen(x -> x.keep(0)), x -> x.back(1), STATE);
        Edges.refused("back(0), 1 being kept", noImage.andThen(x -> x.keep(1)), x -> x.back(0), STATE);
        Edges.refused("back(0), 2 being refused", noImage.andThen(x -> x.keep(2)), x -> x.back(0), STATE);
    }

    static void promise21_badComesAheadOfState() {
        Due.due("back(2)", new SceneShots().back(2), BAD);
        Due.due("back(-1)", new SceneShots().back(-1), BAD);
    }

    static void promise21_howManyShots() {
        for (int shots = 0; shots <= 6; shots++) {
            SceneShots x = Due.told(SHOT.repeat(shots));
            x.keep(1);
            Due.tell(x, "lines 0;" + SHOT);
            Due.due("back(1)", x.back(1), shots);
            Due.due("count(1)", x.count(1), shots);
        }
    }

    static void promise21_anImageOfANewObject() {
        SceneShots x = new SceneShots();
        x.keep(0);
        Due.tell(x, "players 1 2 3 4;lines 01;" + SHOT);
        x.puts(1, 0);
        Due.due("back(0)", x.back(0), 0);
        Shown.sameScene("back(0)", x, new SceneShots());
    }

    static void promise21_allIsAsWhenItWasKept() {
        SceneShots x = Due.told(SIX);
        int[] shots = {5, 0, NONE, 3, NONE, 2, 1, 4};
        for (int line = 0; line < 8; line++) {
            x.puts(line, shots[line]);
        }
        x.keep(0);
        x.strikes(0);
        x.makes();
        Due.tell(x, "players 1 2 3 4;lines 10;" + SHOT);
        x.puts(0, 0);
        Due.due("back(0)", x.back(0), 6);
        SceneShots y = Due.told(SIX);
        for (int line = 0; line < 8; line++) {
            y.puts(line, shots[line]);
        }
        Shown.sameScene("back(0)", x, y);
    }

    static void promise21_theImageStaysAsItIs() {
        SceneShots x = Due.told("lines 01;" + SHOT);
        x.puts(0, 0);
        x.keep(0);
        for (int time = 0; time < 3; time++) {
            x.takes(0);
            x.puts(1, 0);
            x.strikes(0);
            Due.due("back(0)", x.back(0), 1);
            Due.due("line(0, 1)", x.line(0, 1), 0);
            Due.due("line(1, 1)", x.line(1, 1), NONE);
        }
    }

    static void promise21_textAndSeenStay() {
        SceneShots x = Due.told("lines 01;" + SHOT);
        x.keep(0);
        x.sees(0, 0);
        Due.type(x, "lines 011;");
        Due.due("back(0)", x.back(0), 1);
        Due.due("count(2)", x.count(2), 1);
        Due.due("count(3)", x.count(3), 10);
        Due.due("which(0)", x.which(0), 1);
        Due.due("tells()", x.tells(), 1);
        Due.due("count(0)", x.count(0), 3);
    }

    static void promise21_nothingCanBeUndoneBehindIt() {
        SceneShots x = new SceneShots();
        Edges.full(x);
        x.keep(0);
        Due.due("count(4)", x.count(4), 8);
        Due.due("back(0)", x.back(0), 2);
        Due.due("count(4) behind back()", x.count(4), 0);
        Due.due("undo()", x.undo(), STATE);
        Due.due("takes(1)", x.takes(1), 1);
        Due.due("count(4)", x.count(4), 1);
        Due.due("undo()", x.undo(), 0);
        Due.due("line(1, 1)", x.line(1, 1), 1);
        Due.due("undo()", x.undo(), STATE);
    }

    static void promise21_eightAreKnownBehindIt() {
        SceneShots x = Due.told("lines 01;" + SHOT + "shot5 2 0 1 0 7 9;");
        x.puts(0, 0);
        x.keep(0);
        x.puts(0, 1);
        x.back(0);
        for (int deed = 1; deed <= 10; deed++) {
            x.puts(0, deed % 2);
            Due.due("count(4)", x.count(4), Math.min(deed, 8));
        }
        for (int more = 7; more >= 0; more--) {
            Due.due("undo()", x.undo(), more);
        }
        Due.due("undo()", x.undo(), STATE);
        Due.due("line(0, 1)", x.line(0, 1), 0);
    }

    // ---- count

    static void promise22_whatIs0To4() {
        SceneShots x = new SceneShots();
        Due.due("count(-1)", x.count(-1), BAD);
        for (int what = 0; what < 5; what++) {
            Due.due("count(" + what + ")", x.count(what), 0);
        }
        Due.due("count(5)", x.count(5), BAD);
        for (int far : Edges.FAR) {
            Due.due("count(" + far + ")", x.count(far), BAD);
        }
    }

    static void promise22_theMostThereCanBe() {
        SceneShots x = Due.told(SIX);
        Due.due("count(0)", x.count(0), 8);
        Due.due("count(1)", x.count(1), 6);
        SceneShots y = new SceneShots();
        Edges.full(y);
        y.sees(0, 0);
        y.type(32);
        y.puts(0, 0);
        Due.due("count(2)", y.count(2), 6);
        Due.due("count(3)", y.count(3), 160);
        Due.due("count(4)", y.count(4), 8);
    }

    static void promise22_eachOfItsOwn() {
        SceneShots x = Due.told("lines 011;" + SHOT.repeat(2));
        Due.type(x, "abcd");
        x.sees(0, 0);
        for (int line = 0; line < 3; line++) {
            x.puts(line, 0);
        }
        x.takes(0);
        int[] counts = {3, 2, 1, 4, 5};
        for (int what = 0; what < 5; what++) {
            Due.due("count(" + what + ")", x.count(what), counts[what]);
        }
    }

    static void promise22_askedNothingChanges() {
        int[] answers = {BAD, 4, 3, 1, 8, 7, BAD};
        for (int what = -1; what <= 5; what++) {
            int asked = what;
            Edges.leavesAll("count(" + asked + ")", Edges::rich, x -> x.count(asked), answers[what + 1]);
        }
    }
}
