import java.util.function.Consumer;
import java.util.function.ToIntFunction;

/** Edges of promises 5 to 9: puts, takes, strikes, makes, undo. */
final class EdgeDoneTest {
    private static final int BAD = SceneShots.BAD, STATE = SceneShots.STATE, NONE = SceneShots.NONE;
    private static final String SIX = Edges.SIX_SHOTS_EIGHT_LINES;
    private static final int[] FROM = {0, 1, 2, 3, 7, 0};
    private static final int[] TO = {7, 6, 5, 3, 7, 0};
    /** SHOTS 0, 1 see a PLAYER each; either does alone. */
    private static final String TWO = "lines 0101;shot 2 8 0 1 0 7 3;shot 7 8 1 1 0 7 3;";

    public static void main(String[] args) throws IllegalAccessException {
        Edges.run(EdgeDoneTest.class);
    }

    private static void edit(SceneShots x, int... shots) {
        for (int line = 0; line < shots.length; line++) {
            Due.due("line(" + line + ", 1)", x.line(line, 1), shots[line]);
        }
    }

    // ---- puts

    static void promise05_lines0To7AreTaken() {
        SceneShots x = Due.told(SIX);
        for (int line = 0; line < 8; line++) {
            Due.due("puts(" + line + ", 0)", x.puts(line, 0), NONE);
        }
        Due.due("puts(-1, 0)", x.puts(-1, 0), BAD);
        Due.due("puts(8, 0)", x.puts(8, 0), BAD);
        edit(x, 0, 0, 0, 0, 0, 0, 0, 0);
    }

    static void promise05_aLineThatIsNotThereIsBadThoughCovered() {
        for (int lines = 1; lines < 8; lines++) {
            SceneShots x = Due.told("lines " + "0".repeat(lines) + ";shot 2 8 0 1 0 7 3;");
            Due.due("the last", x.puts(lines - 1, 0), NONE);
            Due.due("one behind it", x.puts(lines, 0), BAD);
        }
    }

    static void promise05_shots0To5AreTaken() {
        SceneShots x = Due.told(SIX);
        for (int shot = 0; shot < 6; shot++) {
            Due.due("puts(.., " + shot + ")", x.puts(FROM[shot], shot), shot == 5 ? 0 : NONE);
        }
        Due.due("puts(0, -1)", x.puts(0, -1), BAD);
        Due.due("puts(0, 6)", x.puts(0, 6), BAD);
        SceneShots one = Due.told("lines 0;shot 2 8 0 1 0 7 3;");
        Due.due("puts(0, 1) of one shot", one.puts(0, 1), BAD);
    }

    static void promise05_whatAShotCovers() {
        SceneShots x = Due.told(SIX);
        for (int shot = 0; shot < 6; shot++) {
            for (int line = 0; line < 8; line++) {
                boolean covered = FROM[shot] <= line && line <= TO[shot];
                Due.due("puts(" + line + ", " + shot + ")", x.puts(line, shot), covered ? NONE : STATE);
                x.takes(line);
            }
        }
    }

    static void promise05_whichOneItHad() {
        SceneShots x = Due.told(SIX);
        Due.due("puts(3, 3)", x.puts(3, 3), NONE);
        Due.due("puts(3, 0)", x.puts(3, 0), 3);
        Due.due("puts(3, 2)", x.puts(3, 2), 0);
        Due.due("puts(3, 3)", x.puts(3, 3), 2);
        edit(x, NONE, NONE, NONE, 3, NONE, NONE, NONE, NONE);
    }

    static void promise05_stateIfItHasIt() {
        Edges.refusedWhenRich("puts(1, 0)", x -> x.puts(1, 0), STATE);
        Edges.refusedWhenRich("puts(2, 2)", x -> x.puts(2, 2), STATE);
    }

    static void promise05_stateIfNotCovered() {
        Edges.refusedWhenRich("puts(0, 0): one ahead of FROM", x -> x.puts(0, 0), STATE);
        Edges.refusedWhenRich("puts(3, 1): one behind TO", x -> x.puts(3, 1), STATE);
    }

    static void promise05_badChangesNothing() {
        Edges.refusedWhenRich("puts(-1, 2)", x -> x.puts(-1, 2), BAD);
        Edges.refusedWhenRich("puts(4, 2)", x -> x.puts(4, 2), BAD);
        Edges.refusedWhenRich("puts(0, -1)", x -> x.puts(0, -1), BAD);
        Edges.refusedWhenRich("puts(0, 3)", x -> x.puts(0, 3), BAD);
        for (int far : Edges.FAR) {
            Edges.refusedWhenRich("puts(" + far + ", 2)", x -> x.puts(far, 2), BAD);
            Edges.refusedWhenRich("puts(0, " + far + ")", x -> x.puts(0, far), BAD);
        }
    }

    static void promise05_badComesAheadOfState() {
        SceneShots x = Due.told("lines 01;shot 2 8 0 1 0 0 3;");
        Due.due("no such line, not covered", x.puts(2, 0), BAD);
        Due.due("no such line, not covered", x.puts(-1, 0), BAD);
        Due.due("the line has NONE, and NONE is no shot", x.puts(0, NONE), BAD);
        x.puts(0, 0);
        Due.due("no such shot, the line has one", x.puts(0, 1), BAD);
    }

    static void promise05_withoutLinesOrShots() {
        Due.due("no lines", Due.told("shot 2 8 0 1 0 7 3;").puts(0, 0), BAD);
        Due.due("no shots", Due.told("lines 0;").puts(0, 0), BAD);
        Due.due("neither", new SceneShots().puts(0, 0), BAD);
    }

    // ---- takes

    static void promise06_lines0To7AreTaken() {
        SceneShots x = Due.told(SIX);
        for (int line = 0; line < 8; line++) {
            x.puts(line, line == 7 ? 4 : 0);
        }
        Due.due("takes(-1)", x.takes(-1), BAD);
        Due.due("takes(8)", x.takes(8), BAD);
        Due.due("takes(0)", x.takes(0), 0);
        Due.due("takes(7)", x.takes(7), 4);
        edit(x, NONE, 0, 0, 0, 0, 0, 0, NONE);
    }

    static void promise06_theFirstThatIsNoLineIsBad() {
        for (int lines = 1; lines < 8; lines++) {
            SceneShots x = Due.told("lines " + "0".repeat(lines) + ";shot 2 8 0 1 0 7 3;");
            Due.due("the last, that has none", x.takes(lines - 1), STATE);
            Due.due("one behind it", x.takes(lines), BAD);
        }
        Due.due("no lines", Due.told("shot 2 8 0 1 0 7 3;").takes(0), BAD);
        Due.due("no lines", new SceneShots().takes(0), BAD);
    }

    static void promise06_badChangesNothing() {
        Edges.refusedWhenRich("takes(-1)", x -> x.takes(-1), BAD);
        Edges.refusedWhenRich("takes(4)", x -> x.takes(4), BAD);
        for (int far : Edges.FAR) {
            Edges.refusedWhenRich("takes(" + far + ")", x -> x.takes(far), BAD);
        }
    }

    static void promise06_stateIfItHasNone() {
        Edges.refusedWhenRich("takes(0), that was taken from", x -> x.takes(0), STATE);
        Edges.refusedWhenRich("takes(3), that never had one", x -> x.takes(3), STATE);
    }

    static void promise06_stateTheSecondTime() {
        SceneShots x = Due.told(TWO);
        x.puts(2, 1);
        Due.due("takes(2)", x.takes(2), 1);
        Due.due("takes(2) again", x.takes(2), STATE);
        Due.due("count(4)", x.count(4), 3);
        Due.due("puts(2, 1): it has none now", x.puts(2, 1), NONE);
    }

    // ---- strikes

    static void promise07_shots0To5AreTaken() {
        for (int shot = 0; shot < 6; shot++) {
            SceneShots x = Due.told(SIX);
            Due.due("strikes(" + shot + ")", x.strikes(shot), 0);
            Due.due("count(1)", x.count(1), 5);
            Due.due("strikes(5): the last is 4 now", x.strikes(5), BAD);
            Due.due("strikes(4)", x.strikes(4), 0);
        }
        Due.due("strikes(-1)", Due.told(SIX).strikes(-1), BAD);
        Due.due("strikes(6)", Due.told(SIX).strikes(6), BAD);
    }

    static void promise07_untilThereIsNone() {
        SceneShots x = Due.told(SIX);
        for (int shots = 5; shots >= 0; shots--) {
            Due.due("strikes(0)", x.strikes(0), 0);
            Due.due("count(1)", x.count(1), shots);
        }
        Due.due("strikes(0): none is left", x.strikes(0), BAD);
        Due.due("no shots", Due.told("lines 01;").strikes(0), BAD);
        Due.due("no shots", new SceneShots().strikes(0), BAD);
    }

    static void promise07_badChangesNothing() {
        Edges.refusedWhenRich("strikes(-1)", x -> x.strikes(-1), BAD);
        Edges.refusedWhenRich("strikes(3)", x -> x.strikes(3), BAD);
        Edges.refusedWhenRich("strikes(NONE)", x -> x.strikes(NONE), BAD);
        for (int far : Edges.FAR) {
            Edges.refusedWhenRich("strikes(" + far + ")", x -> x.strikes(far), BAD);
        }
    }

    static void promise07_howManyLinesHadIt() {
        for (int lines = 0; lines <= 8; lines++) {
            SceneShots x = Due.told("lines 01010101;shot 1 8 0 1 0 7 1;shot 2 8 1 2 0 7 2;");
            for (int line = 0; line < 8; line++) {
                x.puts(line, line < lines ? 1 : 0);
            }
            Due.due("strikes(1)", x.strikes(1), lines);
            Due.due("edit(0)", x.edit(0), lines);
        }
    }

    /** Without the SHOT it is as if it had never been told. */
    static void promise07_thoseBehindMoveUp() {
        String[] parts = SIX.split("(?<=;)");
        for (int struck = 0; struck < 6; struck++) {
            StringBuilder without = new StringBuilder(parts[0]);
            for (int shot = 0; shot < 6; shot++) {
                without.append(shot == struck ? "" : parts[shot + 1]);
            }
            SceneShots x = Due.told(SIX);
            x.strikes(struck);
            Shown.sameScene("strikes(" + struck + ")", x, Due.told(without.toString()));
        }
    }

    static void promise07_linesKeepTheShotsThatMoveUp() {
        int[][] behind = {{4, NONE, 0, 1, 2, NONE, NONE, 3}, {4, 0, NONE, 1, 2, NONE, NONE, 3},
            {4, 0, 1, NONE, 2, NONE, NONE, 3}, {4, 0, 1, 2, NONE, NONE, NONE, 3}, {4, 0, 1, 2, 3, NONE, NONE, NONE},
            {NONE, 0, 1, 2, 3, NONE, NONE, 4}};
        for (int struck = 0; struck < 6; struck++) {
            SceneShots x = Due.told("lines00000000;shot1 8 0 1 0 7 1;shot2 8 1 2 0 7 2;shot3 8 2 3 0 7 3;"
                    + "shot4 8 0 4 0 7 4;shot5 8 1 5 0 7 5;shot6 8 2 1 0 7 6;");
            int[] shots = {5, 0, 1, 2, 3, NONE, NONE, 4};
            for (int line = 0; line < 8; line++) {
                x.puts(line, shots[line]);
            }
            Due.due("strikes(" + struck + ")", x.strikes(struck), 1);
            edit(x, behind[struck]);
        }
    }

    static void promise07_aShotThatNoLineHadIsStruckToo() {
        SceneShots x = Due.told(SIX);
        Due.due("strikes(5)", x.strikes(5), 0);
        Due.due("count(4)", x.count(4), 2);
        Due.due("undo()", x.undo(), 1);
        Shown.sameScene("undo()", x, Due.told(SIX));
    }

    // ---- makes

    static void promise08_howManyLinesHaveAnother() {
        SceneShots x = Due.told("lines 01010101;shot 2 8 0 1 0 7 3;shot 7 8 1 1 0 7 3;");
        Due.due("makes(): all eight had none", x.makes(), 8);
        for (int others = 1; others <= 8; others++) {
            for (int line = 0; line < others; line++) {
                x.puts(line, 1);
            }
            Due.due("makes(): " + others + " had another", x.makes(), others);
            edit(x, 0, 0, 0, 0, 0, 0, 0, 0);
        }
        x.takes(7);
        Due.due("makes(): the last had none", x.makes(), 1);
        x.takes(0);
        Due.due("makes(): the first had none", x.makes(), 1);
    }

    static void promise08_stateIfItIsThat() {
        Consumer<SceneShots> made = x -> {
            Edges.rich(x);
            Due.tell(x, TWO);
            x.makes();
        };
        Edges.refused("makes() again", made, SceneShots::makes, STATE);
        Consumer<SceneShots> put = x -> {
            Due.tell(x, TWO);
            for (int line = 0; line < 4; line++) {
                x.puts(line, 0);
            }
        };
        Edges.refused("makes() of what was put by hand", put, SceneShots::makes, STATE);
    }

    static void promise08_stateIfThereIsNoBest() {
        String[] texts = {"lines 0;", "lines 00;shot 2 8 1 1 0 7 3;", "lines 00;shot 2 8 0 1 0 0 3;",
            "lines 00;shot 2 8 0 1 1 7 3;", "lines 00;shot 2 8 0 1 0 0 3;shot 2 2 0 5 1 1 3;"};
        for (String text : texts) {
            Edges.refused("makes() of " + text, x -> {
                Due.tell(x, text);
                x.puts(0, 0);
            }, SceneShots::makes, STATE);
        }
    }

    static void promise08_stateWithoutLines() {
        Edges.refused("makes() of a new object", x -> { }, SceneShots::makes, STATE);
        Edges.refused("makes() of shots alone", x -> Due.tell(x, "shot 2 8 0 1 0 7 3;"), SceneShots::makes, STATE);
    }

    static void promise08_theEditIsTheBestOne() {
        SceneShots x = Due.told("lines00110011;shot1 1 2 1 7 7 1;shot2 8 0 1 0 7 9;shot7 8 1 1 0 7 9;");
        Due.due("makes()", x.makes(), 8);
        for (int line = 0; line < 8; line++) {
            Due.due("line(" + line + ", 1)", x.line(line, 1), x.best(line));
        }
        edit(x, 1, 1, 1, 2, 1, 1, 1, 2);
        Due.due("count(4)", x.count(4), 2);
    }

    // ---- undo

    static void promise09_stateIfThereIsNone() {
        Edges.refused("undo() of a new object", x -> { }, SceneShots::undo, STATE);
        Edges.refused("undo() when all is undone", x -> {
            Due.tell(x, TWO);
            x.keep(0);
            x.sees(0, 0);
            Due.type(x, "abc");
            x.undo();
        }, SceneShots::undo, STATE);
        Edges.refused("undo() behind back()", x -> {
            Edges.rich(x);
            x.back(0);
        }, SceneShots::undo, STATE);
    }

    static void promise09_howManyMoreMayBe() {
        for (int deeds = 1; deeds <= 20; deeds++) {
            SceneShots x = Due.told(TWO);
            for (int deed = 1; deed < deeds; deed++) {
                x.puts(0, deed % 2);
            }
            int known = Math.min(deeds, 8);
            Due.due("count(4) behind " + deeds, x.count(4), known);
            for (int more = known - 1; more >= 0; more--) {
                Due.due("undo() of " + deeds, x.undo(), more);
                Due.due("count(4)", x.count(4), more);
            }
            Due.due("one more", x.undo(), STATE);
        }
    }

    /** The seventh and the eighth are undone, the ninth is lost. */
    static void promise09_eightAreKnown() {
        String[] texts = {"lines 0;", "lines 01;", "lines 011;", "lines 0111;", "lines 01111;", "lines 011111;",
            "lines 0111111;", "lines 01111111;"};
        SceneShots eight = new SceneShots();
        for (String text : texts) {
            Due.tell(eight, text);
        }
        for (int lines = 7; lines >= 0; lines--) {
            Due.due("undo()", eight.undo(), lines);
            Due.due("count(0)", eight.count(0), lines);
        }
        Due.due("undo()", eight.undo(), STATE);
        SceneShots nine = Due.told("players 1 2 3 4;");
        for (String text : texts) {
            Due.tell(nine, text);
        }
        for (int at = 0; at < 8; at++) {
            nine.undo();
        }
        Due.due("the ninth is lost", nine.undo(), STATE);
        Due.due("players as behind the ninth", nine.player(0, 0), 1);
    }

    static void promise09_theOldestIsLostWhateverItWas() {
        Consumer<SceneShots> eight = x -> {
            for (int at = 0; at < 8; at++) {
                Due.tell(x, at % 2 == 0 ? "lines 0;" : "");
            }
        };
        Consumer<SceneShots> first = x -> Due.tell(x, TWO);
        lostBehind("puts", first, x -> x.puts(0, 0), eight);
        lostBehind("takes", first.andThen(x -> x.puts(0, 0)), x -> x.takes(0), eight);
        lostBehind("strikes", first, x -> x.strikes(0), eight);
        lostBehind("makes", first, SceneShots::makes, eight);
    }

    private static void lostBehind(String name, Consumer<SceneShots> first, ToIntFunction<SceneShots> deed,
            Consumer<SceneShots> eight) {
        SceneShots x = new SceneShots();
        SceneShots due = new SceneShots();
        first.accept(x);
        first.accept(due);
        deed.applyAsInt(x);
        deed.applyAsInt(due);
        eight.accept(x);
        for (int at = 0; at < 8; at++) {
            x.undo();
        }
        Due.due(name + ": nothing more", x.undo(), STATE);
        Shown.sameScene(name + " is not undone", x, due);
    }

    /** A deed and its undo() are as nothing, but that a text told is gone. */
    static void promise09_eachDeedIsUndone() {
        undone("puts(3, 2)", Edges::rich, x -> x.puts(3, 2));
        undone("puts(1, 1) over another", Edges::rich, x -> x.puts(1, 1));
        undone("takes(1)", Edges::rich, x -> x.takes(1));
        for (int shot = 0; shot < 3; shot++) {
            int struck = shot;
            undone("strikes(" + struck + ")", Edges::rich, x -> x.strikes(struck));
        }
        undone("makes()", Edges::rich, SceneShots::makes);
        Consumer<SceneShots> clear = x -> {
            Edges.rich(x);
            x.clear();
        };
        undone("tells() of nothing", clear, SceneShots::tells);
        undone("tells()", clear, x -> Due.tell(x, "players 9 8 7 6;lines 1;" + "shot 9 9 2 5 0 7 9;"));
    }

    private static void undone(String name, Consumer<SceneShots> before, ToIntFunction<SceneShots> deed) {
        SceneShots x = new SceneShots();
        before.accept(x);
        int known = x.count(4);
        Due.due(name + " is done", deed.applyAsInt(x) == STATE ? 0 : 1, 1);
        Due.due("count(4) behind " + name, x.count(4), known + 1);
        Due.due("undo()", x.undo(), known);
        Shown.alike(name + ", undo()", y -> {
            before.accept(y);
            deed.applyAsInt(y);
            y.undo();
        }, before);
    }

    static void promise09_textSeenAndImagesAreNotUndone() {
        SceneShots x = Due.told(TWO);
        x.puts(0, 0);
        x.keep(0);
        x.sees(0, 1);
        Due.type(x, "abc");
        x.undo();
        x.undo();
        Due.due("count(2)", x.count(2), 1);
        Due.due("count(3)", x.count(3), 3);
        Due.due("count(1)", x.count(1), 0);
        Due.due("back(0)", x.back(0), 2);
        Due.due("line(0, 1)", x.line(0, 1), 0);
    }

    static void promise09_aTextToldDoesNotComeBack() {
        SceneShots x = Due.told("lines 01;");
        x.undo();
        Due.due("count(3)", x.count(3), 0);
        Due.due("tells()", x.tells(), 0);
    }

    static void promise09_refusedCallsAreNotKnown() {
        SceneShots x = Due.told(TWO);
        x.puts(0, 0);
        x.puts(0, 0);
        x.puts(4, 0);
        x.takes(1);
        x.takes(4);
        x.strikes(2);
        Due.tell(x, "lines 2;");
        Due.due("count(4)", x.count(4), 2);
        Due.due("makes()", x.makes(), 3);
        x.makes();
        Due.due("count(4)", x.count(4), 3);
        Due.due("undo()", x.undo(), 2);
        edit(x, 0, NONE, NONE, NONE);
        Due.due("undo()", x.undo(), 1);
        edit(x, NONE, NONE, NONE, NONE);
    }

    static void promise09_otherCallsAreNotKnown() {
        SceneShots x = Due.told(TWO);
        x.type(32);
        x.clear();
        x.sees(0, 0);
        x.forget();
        x.keep(0);
        x.best(0);
        x.cheapest(0);
        x.needed();
        x.which(0);
        Due.due("count(4)", x.count(4), 1);
    }

    static void promise09_undoIsNotUndone() {
        SceneShots x = Due.told(TWO);
        x.puts(0, 0);
        x.puts(0, 1);
        Due.due("undo()", x.undo(), 2);
        edit(x, 0, NONE, NONE, NONE);
        Due.due("undo()", x.undo(), 1);
        edit(x, NONE, NONE, NONE, NONE);
    }

    static void promise09_deedsBehindUndoAreKnown() {
        SceneShots x = Due.told(TWO);
        for (int round = 0; round < 12; round++) {
            x.puts(0, 0);
            x.puts(1, 1);
            Due.due("undo()", x.undo(), Math.min(round + 2, 7));
            edit(x, 0, NONE, NONE);
            x.takes(0);
            Due.due("undo()", x.undo(), Math.min(round + 2, 7));
            edit(x, 0, NONE, NONE);
            x.puts(0, 1);
            x.undo();
            x.undo();
            edit(x, NONE, NONE, NONE);
            Due.due("one more deed", round % 2 == 0 ? x.puts(3, 1) : x.takes(3), round % 2 == 0 ? NONE : 1);
        }
    }
}
