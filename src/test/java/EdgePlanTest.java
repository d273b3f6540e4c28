/** Edges of promises 14 to 19: best, cheapest, needed, sees, forget, which. */
final class EdgePlanTest {
    private static final int BAD = SceneShots.BAD, FULL = SceneShots.FULL, NONE = SceneShots.NONE;
    /** Texts of two LINES that have no WHOLE EDIT, each for one cause. */
    private static final String[] NOT_WHOLE = {
        "lines 00;", "lines 00;shot 2 8 0 1 0 0 3;", "lines 00;shot 2 8 0 1 1 7 3;",
        "lines 00;shot 2 8 1 1 0 7 3;", "lines 00;shot 2 8 0 1 0 0 3;shot 2 2 0 5 1 1 3;",
        "lines 00;shot 2 8 0 1 0 0 3;shot 2 8 0 2 1 1 3;", "lines 00;shot 2 8 1 1 0 0 3;shot 7 8 1 1 1 1 3;"};
    /** Each LINE has one SHOT alone; LINES say who, and PRICES are told, by the tests. */
    private static final String[] ONE_EACH = {"shot2 8 0 1 0 0 ", "shot7 8 2 1 1 1 ", "shot2 8 0 3 2 2 ",
        "shot7 8 2 3 3 3 ", "shot2 8 0 5 4 4 ", "shot7 8 2 5 5 5 "};

    public static void main(String[] args) throws IllegalAccessException {
        Edges.run(EdgePlanTest.class);
    }

    private static String oneEach(String prices) {
        StringBuilder text = new StringBuilder("lines000000;");
        for (int shot = 0; shot < 6; shot++) {
            text.append(ONE_EACH[shot]).append(prices.charAt(shot)).append(';');
        }
        return text.toString();
    }

    private static void best(String text, int shots, int cuts, String edit) {
        SceneShots x = Due.told(text);
        Due.due("best(-2) of " + text, x.best(-2), shots);
        Due.due("best(-1) of " + text, x.best(-1), cuts);
        for (int line = 0; line < edit.length(); line++) {
            Due.due("best(" + line + ") of " + text, x.best(line), edit.charAt(line) - '0');
        }
        Due.due("best(-3) of " + text, x.best(-3), BAD);
        Due.due("best(" + edit.length() + ") of " + text, x.best(edit.length()), BAD);
    }

    private static void noBest(String text, int lines) {
        SceneShots x = Due.told(text);
        for (int k = -2; k < lines; k++) {
            Due.due("best(" + k + ") of " + text, x.best(k), NONE);
        }
        Due.due("best(-3) of " + text, x.best(-3), BAD);
        Due.due("best(" + lines + ") of " + text, x.best(lines), BAD);
    }

    private static void cheapest(String text, int set, int dear) {
        SceneShots x = Due.told(text);
        Due.due("cheapest(0) of " + text, x.cheapest(0), set);
        Due.due("cheapest(1) of " + text, x.cheapest(1), dear);
    }

    private static void needed(String text, int set) {
        Due.due("needed() of " + text, Due.told(text).needed(), set);
    }

    // ---- best

    static void promise14_kIsFromMinus2ToTheLastLine() {
        for (int lines = 1; lines <= 8; lines++) {
            best("lines " + "0".repeat(lines) + ";shot 2 8 0 1 0 7 3;", 1, 0, "0".repeat(lines));
        }
        SceneShots x = Due.told("lines 0;shot 2 8 0 1 0 7 3;");
        for (int far : Edges.FAR) {
            Due.due("best(" + far + ")", x.best(far), BAD);
        }
    }

    static void promise14_noneAndBadAheadOfIt() {
        for (String text : NOT_WHOLE) {
            noBest(text, 2);
        }
    }

    static void promise14_withoutLines() {
        best("", 0, 0, "");
        best("shot 2 8 0 1 0 7 3;", 0, 0, "");
        best("shot2 8 0 1 0 7 3;".repeat(6), 0, 0, "");
    }

    static void promise14_oneReactionIsNotAmiss() {
        best("lines 0;shot 2 8 1 1 0 7 3;", 1, 0, "0");
        best("lines 01;shot 2 8 1 1 0 7 3;", 1, 0, "00");
        best("lines 10;shot 2 8 1 1 0 7 3;", 1, 0, "00");
        best("lines 01010101;shot 2 8 1 1 0 7 3;", 1, 0, "00000000");
        best("lines 10101010;shot 2 8 0 1 0 7 3;", 1, 0, "00000000");
    }

    /** The pair that both would be REACTIONS is the first, one between, the last. */
    static void promise14_twoReactionsAreAmissWhereverTheyAre() {
        for (String lines : new String[] {"00101010", "01001010", "01010100"}) {
            noBest("lines " + lines + ";shot 2 8 1 1 0 7 3;", 8);
        }
    }

    static void promise14_aCutMustNotBeAmissWhereverItIs() {
        for (int line = 1; line < 8; line++) {
            String before = "lines00000000;shot2 8 0 1 0 " + (line - 1) + " 3;";
            best(before + "shot7 8 2 1 " + line + " 7 3;", 2, 1, "0".repeat(line) + "1".repeat(8 - line));
            noBest(before + "shot7 2 2 1 " + line + " 7 3;", 8);
            noBest(before + "shot2 8 0 2 " + line + " 7 3;", 8);
            best(before + "shot2 8 0 3 " + line + " 7 3;", 2, 1, "0".repeat(line) + "1".repeat(8 - line));
        }
    }

    static void promise14_sixShots() {
        best(oneEach("111111"), 6, 5, "012345");
    }

    /** By two SHOTS three CUTS, by three SHOTS two: two SHOTS it is. */
    static void promise14_fewestShotsAheadOfFewestCuts() {
        best("lines00110011;shot2 8 0 1 0 7 9;shot7 8 1 1 0 7 9;shot4 9 2 5 2 5 1;", 2, 3, "00010001");
    }

    /** By SHOTS 0, 1 there are three CUTS, by 0, 2 but one, though that has the higher SHOT at LINE 3. */
    static void promise14_fewestCutsAheadOfLowerShots() {
        best("lines0011001;shot2 8 0 1 0 6 3;shot7 8 1 1 0 6 3;shot4 9 2 5 3 6 1;", 2, 1, "0002222");
    }

    static void promise14_theLowerShotAtTheFirstLineThatDiffers() {
        best("lines 0;" + "shot2 8 0 1 0 7 3;".repeat(6), 1, 0, "0");
        best("lines 01010101;shot2 8 0 1 0 7 9;shot2 8 0 1 0 7 1;", 1, 0, "00000000");
        best("lines 0000;shot2 8 0 1 0 2 3;shot7 8 2 1 1 3 3;", 2, 1, "0001");
        best("lines 0000;shot2 8 0 1 1 3 3;shot7 8 2 1 0 2 3;", 2, 1, "1000");
        best("lines 00;shot7 8 2 1 1 1 3;shot7 8 2 1 1 1 3;shot2 8 0 1 0 0 3;", 2, 1, "20");
        best("lines 000;shot2 8 0 1 2 2 3;shot7 8 2 1 0 1 3;shot2 8 0 1 2 2 3;shot7 8 2 1 0 1 3;", 2, 1, "110");
    }

    /** Sets are alike in SHOTS and CUTS: the lower SHOT at the first LINE that differs is of the set of higher bits. */
    static void promise14_theLowerShotWhateverTheSetsBits() {
        best("lines 00;shot2 8 0 1 0 0 3;shot2 2 0 1 0 0 3;shot7 2 2 1 1 1 3;shot7 8 2 1 1 1 3;", 2, 1, "03");
        best("lines 00;shot2 8 0 1 0 0 3;shot2 2 0 1 0 0 3;shot7 8 2 1 1 1 3;shot7 2 2 1 1 1 3;", 2, 1, "02");
        best("lines000;shot0 5 2 1 0 0 3;shot2 8 0 1 1 1 3;shot2 2 0 1 1 1 3;shot7 2 2 1 2 2 3;shot7 8 2 1 2 2 3;",
                3, 2, "014");
        best("lines000;shot0 5 2 1 0 0 3;shot2 8 0 1 1 1 3;shot2 2 0 1 1 1 3;shot7 8 2 1 2 2 3;shot7 2 2 1 2 2 3;",
                3, 2, "013");
    }

    static void promise14_askedNothingChanges() {
        int[] answers = {BAD, 2, 1, 1, 0, 0, 0, BAD};
        for (int k = -3; k <= 4; k++) {
            int asked = k;
            Edges.leavesAll("best(" + k + ")", Edges::rich, x -> x.best(asked), answers[k + 3]);
        }
    }

    // ---- cheapest

    static void promise15_whatIs0And1() {
        SceneShots x = Due.told("lines 0;shot 2 8 0 1 0 7 3;");
        Due.due("cheapest(-1)", x.cheapest(-1), BAD);
        Due.due("cheapest(0)", x.cheapest(0), 1);
        Due.due("cheapest(1)", x.cheapest(1), 1000);
        Due.due("cheapest(2)", x.cheapest(2), BAD);
        for (int far : Edges.FAR) {
            Due.due("cheapest(" + far + ")", x.cheapest(far), BAD);
        }
    }

    static void promise15_noneAndBadAheadOfIt() {
        for (String text : NOT_WHOLE) {
            cheapest(text, NONE, NONE);
            Due.due("cheapest(2)", Due.told(text).cheapest(2), BAD);
            Due.due("cheapest(-1)", Due.told(text).cheapest(-1), BAD);
        }
    }

    static void promise15_withoutLinesTheEmptySet() {
        cheapest("", 0, 0);
        cheapest("shot2 8 0 1 0 7 1;".repeat(6), 0, 0);
    }

    static void promise15_allSixShots() {
        cheapest(oneEach("999999"), 63, 18000);
        cheapest(oneEach("111111"), 63, 2000);
        cheapest(oneEach("777777"), 63, 13999);
    }

    static void promise15_pricesFrom1To9() {
        int[] dear = {333, 666, 1000, 1333, 1666, 2000, 2333, 2666, 3000};
        for (int price = 1; price <= 9; price++) {
            cheapest("lines 0;shot 2 8 0 1 0 7 " + price + ";", 1, dear[price - 1]);
        }
    }

    static void promise15_theLeastAsBitsOfTheSameDear() {
        cheapest("lines 01;" + "shot2 8 0 1 0 7 3;".repeat(6), 1, 1000);
        cheapest("lines 00;shot2 8 0 1 0 0 1;shot7 8 2 1 1 1 2;shot2 8 0 1 0 1 3;", 3, 1000);
        cheapest("lines 00;shot2 8 0 1 0 1 3;shot2 8 0 1 0 0 1;shot7 8 2 1 1 1 2;", 1, 1000);
    }

    static void promise15_oneLessIsCheaperWhateverItsBits() {
        cheapest("lines 01;" + "shot2 8 0 1 0 7 2;".repeat(5) + "shot2 8 0 1 0 7 1;", 32, 333);
        cheapest("lines 00;shot2 8 0 1 0 1 4;shot2 8 0 1 0 0 1;shot7 8 2 1 1 1 2;", 6, 1000);
    }

    /** 7 and 1 are 8 by PRICE, but less than 8 by float; 2 and 6 are just 8. */
    static void promise15_dearIsInFloat() {
        cheapest("lines 00;shot2 8 0 1 0 1 8;shot2 8 0 1 0 0 1;shot7 8 2 1 1 1 7;", 6, 2666);
        cheapest("lines 00;shot2 8 0 1 0 1 8;shot2 8 0 1 0 0 2;shot7 8 2 1 1 1 6;", 1, 2666);
        cheapest("lines 00;shot2 8 0 1 0 0 1;shot7 8 2 1 1 1 4;shot2 8 0 1 0 1 5;", 4, 1666);
    }

    /** 7 / 3, 1 / 3, 1 / 3 are less than 3 one behind the other, 1 / 3, 1 / 3, 7 / 3 are not. */
    static void promise15_dearIsAddedByNumbers() {
        cheapest("lines 000;shot2 8 0 1 0 0 7;shot7 8 2 1 1 1 1;shot4 9 0 5 2 2 1;", 7, 2999);
        cheapest("lines 000;shot2 8 0 1 0 0 1;shot7 8 2 1 1 1 7;shot4 9 0 5 2 2 1;", 7, 2999);
        cheapest("lines 000;shot2 8 0 1 0 0 1;shot7 8 2 1 1 1 1;shot4 9 0 5 2 2 7;", 7, 3000);
    }

    static void promise15_askedNothingChanges() {
        int[] answers = {BAD, 6, 1000, BAD};
        for (int what = -1; what <= 2; what++) {
            int asked = what;
            Edges.leavesAll("cheapest(" + asked + ")", Edges::rich, x -> x.cheapest(asked), answers[what + 1]);
        }
    }

    // ---- needed

    static void promise16_noneIfThereIsNoWholeEdit() {
        for (String text : NOT_WHOLE) {
            needed(text, 0);
        }
    }

    static void promise16_noneWithoutLines() {
        needed("", 0);
        needed("shot2 8 0 1 0 7 3;", 0);
        needed("shot2 8 0 1 0 7 3;".repeat(6), 0);
    }

    static void promise16_fromOneToAllSix() {
        needed("lines 0;shot2 8 0 1 0 7 3;", 1);
        needed(oneEach("111111"), 63);
        needed("lines 0;" + "shot2 8 0 1 1 7 3;".repeat(5) + "shot2 8 0 1 0 0 3;", 32);
    }

    static void promise16_notThoseThatOthersReplace() {
        needed("lines 0;" + "shot2 8 0 1 0 7 3;".repeat(2), 0);
        needed("lines 0;" + "shot2 8 0 1 0 7 3;".repeat(6), 0);
        needed("lines 00;shot2 8 0 1 0 0 3;shot7 8 2 1 0 1 3;shot2 8 0 1 1 1 3;", 2);
    }

    /** Two SHOTS can stand at the first LINE, but only one of them can be CUT together with that of the second. */
    static void promise16_aShotThatLeadsNowhereIsNotNeeded() {
        needed("lines 00;shot2 8 0 1 0 0 3;shot2 2 0 1 0 0 3;shot7 8 2 1 1 1 3;", 5);
        needed("lines 00;shot2 2 0 1 0 0 3;shot2 8 0 1 0 0 3;shot7 8 2 1 1 1 3;", 6);
    }

    static void promise16_askedNothingChanges() {
        Edges.leavesAll("needed()", Edges::rich, SceneShots::needed, 0);
        Edges.leavesAll("needed() of one shot", x -> Due.tell(x, "lines 0;shot2 8 0 1 0 7 3;"), SceneShots::needed, 1);
    }

    // ---- sees

    static void promise17_whatIs0To2AndNIsMinus1To5() {
        SceneShots x = new SceneShots();
        for (int what = -1; what <= 3; what++) {
            for (int n = -2; n <= 6; n++) {
                boolean taken = what >= 0 && what <= 2 && n >= -1 && n <= 5;
                x.forget();
                Due.due("sees(" + what + ", " + n + ")", x.sees(what, n), taken ? 1 : BAD);
                Due.due("count(2)", x.count(2), taken ? 1 : 0);
            }
        }
    }

    static void promise17_badChangesNothing() {
        Edges.refusedWhenRich("sees(-1, 0)", x -> x.sees(-1, 0), BAD);
        Edges.refusedWhenRich("sees(3, 0)", x -> x.sees(3, 0), BAD);
        Edges.refusedWhenRich("sees(0, -2)", x -> x.sees(0, -2), BAD);
        Edges.refusedWhenRich("sees(1, 6)", x -> x.sees(1, 6), BAD);
        for (int far : Edges.FAR) {
            Edges.refusedWhenRich("sees(" + far + ", 0)", x -> x.sees(far, 0), BAD);
            Edges.refusedWhenRich("sees(0, " + far + ")", x -> x.sees(0, far), BAD);
        }
    }

    static void promise17_theSixthIsTakenTheSeventhIsFull() {
        SceneShots x = Due.told("shot 2 8 0 1 0 7 3;shot 2 8 1 1 0 7 3;");
        for (int many = 1; many <= 5; many++) {
            Due.due("sees(1, 1)", x.sees(1, 1), many);
        }
        Due.due("the sixth", x.sees(0, 1), 6);
        Due.due("it counts", x.which(1), 1);
        Due.due("the seventh", x.sees(0, 0), FULL);
        Due.due("count(2)", x.count(2), 6);
        Due.due("it does not count", x.which(0), 1);
    }

    static void promise17_fullChangesNothing() {
        Edges.refused("sees(0, 2)", Edges::full, x -> x.sees(0, 2), FULL);
        Edges.refused("sees(2, 1)", Edges::full, x -> x.sees(2, 1), FULL);
    }

    static void promise17_badComesAheadOfFull() {
        Edges.refused("sees(3, 0)", Edges::full, x -> x.sees(3, 0), BAD);
        Edges.refused("sees(-1, 0)", Edges::full, x -> x.sees(-1, 0), BAD);
        Edges.refused("sees(0, 6)", Edges::full, x -> x.sees(0, 6), BAD);
        Edges.refused("sees(0, -2)", Edges::full, x -> x.sees(0, -2), BAD);
    }

    static void promise17_itChangesNothingElse() {
        Shown.alike("sees() that is forgotten", x -> {
            Edges.rich(x);
            x.sees(2, 1);
            x.forget();
        }, x -> {
            Edges.rich(x);
            x.forget();
        });
    }

    // ---- forget

    static void promise18_howMuchWasSeen() {
        for (int many = 0; many <= 6; many++) {
            SceneShots x = new SceneShots();
            for (int at = 0; at < many; at++) {
                x.sees(0, 0);
            }
            Due.due("forget()", x.forget(), many);
            Due.due("count(2)", x.count(2), 0);
            Due.due("forget() again", x.forget(), 0);
        }
        SceneShots full = new SceneShots();
        Edges.full(full);
        full.sees(0, 0);
        Due.due("forget() behind the seventh", full.forget(), 6);
        Due.due("sees(0, 0)", full.sees(0, 0), 1);
    }

    static void promise18_nothingIsSeenThen() {
        SceneShots x = Due.told("shot 2 8 0 1 0 7 3;shot 2 8 1 1 0 7 3;");
        x.sees(0, 1);
        x.forget();
        Due.due("which(0)", x.which(0), 2);
        Due.due("which(1)", x.which(1), 0);
        x.sees(1, 1);
        Due.due("which(0): what was forgotten does not count", x.which(0), 2);
    }

    static void promise18_nothingElseIsChanged() {
        Shown.alike("forget()", x -> {
            Edges.rich(x);
            x.forget();
        }, x -> {
            Edges.scene(x);
            Due.type(x, "lines 01");
        });
    }

    static void promise18_nothingSeenNothingForgotten() {
        Edges.leavesAll("forget()", x -> {
            Edges.rich(x);
            x.forget();
        }, SceneShots::forget, 0);
    }

    // ---- which

    private static void which(SceneShots x, int many, int lowest) {
        Due.due("which(0)", x.which(0), many);
        Due.due("which(1)", x.which(1), lowest);
    }

    static void promise19_whatIs0And1() {
        SceneShots x = Due.told("shot 2 8 0 1 0 7 3;");
        Due.due("which(-1)", x.which(-1), BAD);
        which(x, 1, 0);
        Due.due("which(2)", x.which(2), BAD);
        for (int far : Edges.FAR) {
            Due.due("which(" + far + ")", x.which(far), BAD);
        }
        Due.due("which(2) without shots", new SceneShots().which(2), BAD);
    }

    static void promise19_withoutShots() {
        SceneShots x = Due.told("lines 01;");
        which(x, 0, NONE);
        x.sees(0, 0);
        which(x, 0, NONE);
    }

    static void promise19_allIfNothingIsSeen() {
        for (int shots = 1; shots <= 6; shots++) {
            which(Due.told("shot2 8 0 1 0 7 3;".repeat(shots)), shots, 0);
        }
    }

    /** SHOT by SHOT: AIM 0, 1, 2, 2, 2, 2, SIZE 1, 2, 3, 4, 5, 5, SIDE 1, 0, -1, 1, 1, 0. */
    static void promise19_eachNumberOfEachWhat() {
        String text = "shot2 8 0 1 0 7 3;shot2 5 1 2 0 7 3;shot2 2 2 3 0 7 3;shot2 8 2 4 0 7 3;shot2 8 2 5 0 7 3;"
                + "shot2 5 2 5 0 7 3;";
        int[][] many = {{0, 1, 1, 4, 0, 0, 0}, {0, 0, 1, 1, 1, 1, 2}, {1, 2, 3, 0, 0, 0, 0}};
        int[][] lowest = {{NONE, 0, 1, 2, NONE, NONE, NONE}, {NONE, NONE, 0, 1, 2, 3, 4},
            {2, 1, 0, NONE, NONE, NONE, NONE}};
        SceneShots x = Due.told(text);
        for (int what = 0; what < 3; what++) {
            for (int n = -1; n <= 5; n++) {
                x.forget();
                x.sees(what, n);
                which(x, many[what][n + 1], lowest[what][n + 1]);
            }
        }
        x.forget();
        x.sees(1, 5);
        x.sees(2, 0);
        which(x, 1, 5);
        x.sees(0, 2);
        which(x, 1, 5);
        x.sees(0, 1);
        which(x, 0, NONE);
    }

    static void promise19_ofTheShotsThatAreThereNow() {
        SceneShots x = Due.told("shot 2 8 0 1 0 7 3;shot 2 8 1 1 0 7 3;");
        x.sees(0, 1);
        x.keep(0);
        which(x, 1, 1);
        x.strikes(0);
        which(x, 1, 0);
        x.strikes(0);
        which(x, 0, NONE);
        x.undo();
        which(x, 1, 0);
        x.back(0);
        which(x, 1, 1);
        Due.tell(x, "");
        which(x, 0, NONE);
    }

    static void promise19_askedNothingChanges() {
        int[] answers = {BAD, 1, 1, BAD};
        for (int what = -1; what <= 2; what++) {
            int asked = what;
            Edges.leavesAll("which(" + asked + ")", Edges::rich, x -> x.which(asked), answers[what + 1]);
        }
    }
}
