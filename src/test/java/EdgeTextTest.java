/** Edges of promises 1 to 4: a new object, type, clear, and all that a text may and may not hold. */
final class EdgeTextTest {
    private static final int BAD = SceneShots.BAD, STATE = SceneShots.STATE, FULL = SceneShots.FULL;
    private static final int NONE = SceneShots.NONE, NO = SceneShots.NO;
    private static final String SHOT = "shot1 2 0 1 0 7 9;";
    private static final String[] WORDS = {"players", "lines", "shot"};

    public static void main(String[] args) throws IllegalAccessException {
        Edges.run(EdgeTextTest.class);
    }

    /** Both on a new object and on one that has much to lose. */
    private static void fault(String text, int place) {
        faultOfNew(text, place);
        Edges.refused("tells() of '" + text + "'", x -> {
            Edges.rich(x);
            x.clear();
            Due.type(x, text);
        }, SceneShots::tells, -10 - place);
    }

    private static void faultOfNew(String text, int place) {
        SceneShots x = new SceneShots();
        Due.type(x, text);
        Due.due("tells() of '" + text + "'", x.tells(), -10 - place);
        Due.due("letters behind it", x.count(3), text.length());
    }

    private static SceneShots items(String text, int items) {
        SceneShots x = new SceneShots();
        Due.type(x, text);
        Due.due("tells() of '" + text + "'", x.tells(), items);
        Due.due("letters behind it", x.count(3), 0);
        return x;
    }

    // ---- a new object

    static void promise01_constants() {
        int[] got = {BAD, STATE, FULL, NONE, NO};
        int[] want = {-1, -2, -3, -9, -1000000};
        for (int at = 0; at < 5; at++) {
            Due.due("constant " + at, got[at], want[at]);
        }
    }

    static void promise01_noLines() {
        SceneShots x = new SceneShots();
        Due.due("count(0)", x.count(0), 0);
        for (int what = 0; what < 4; what++) {
            Due.due("line(0, " + what + ")", x.line(0, what), BAD);
        }
        Due.due("puts(0, 0)", x.puts(0, 0), BAD);
        Due.due("takes(0)", x.takes(0), BAD);
        for (int what = 0; what < 5; what++) {
            Due.due("edit(" + what + ")", x.edit(what), 0);
        }
    }

    static void promise01_noShots() {
        SceneShots x = new SceneShots();
        Due.due("count(1)", x.count(1), 0);
        for (int what = 0; what < 11; what++) {
            Due.due("shot(0, " + what + ")", x.shot(0, what), NO);
        }
        Due.due("strikes(0)", x.strikes(0), BAD);
        Due.due("which(0)", x.which(0), 0);
        Due.due("which(1)", x.which(1), NONE);
        Due.due("keep(0)", x.keep(0), 0);
    }

    static void promise01_playersAsAtFirst() {
        SceneShots x = new SceneShots();
        int[] places = {3, 5, 6, 5};
        for (int at = 0; at < 4; at++) {
            Due.due("player(" + at / 2 + ", " + at % 2 + ")", x.player(at / 2, at % 2), places[at]);
        }
    }

    static void promise01_nothingTypedSeenDoneKept() {
        SceneShots x = new SceneShots();
        for (int what = 2; what < 5; what++) {
            Due.due("count(" + what + ")", x.count(what), 0);
        }
        Due.due("clear()", x.clear(), 0);
        Due.due("forget()", x.forget(), 0);
        Due.due("undo()", x.undo(), STATE);
        Due.due("back(0)", x.back(0), STATE);
        Due.due("back(1)", x.back(1), STATE);
    }

    static void promise01_otherEditsWithoutLines() {
        SceneShots x = new SceneShots();
        Due.due("best(-2)", x.best(-2), 0);
        Due.due("best(-1)", x.best(-1), 0);
        Due.due("best(0)", x.best(0), BAD);
        Due.due("cheapest(0)", x.cheapest(0), 0);
        Due.due("cheapest(1)", x.cheapest(1), 0);
        Due.due("needed()", x.needed(), 0);
        Due.due("makes()", x.makes(), STATE);
    }

    static void promise01_objectsShareNothing() {
        Shown.alike("another object was used", x -> Edges.rich(new SceneShots()), x -> { });
        Shown.alike("another object was used between", x -> {
            Edges.rich(x);
            Edges.full(new SceneShots());
        }, Edges::rich);
    }

    static void promise01_the512thCallIsAsTold() {
        SceneShots x = new SceneShots();
        for (int call = 1; call < 512; call++) {
            Due.due("call " + call, call == 481 ? x.clear() : x.type(65), call == 481 ? 160 : call < 161 ? call
                    : call < 481 ? FULL : call - 481);
        }
        Due.due("call 512", x.count(3), 30);
    }

    // ---- type

    static void promise02_letters0To255AreTaken() {
        SceneShots x = new SceneShots();
        for (int letter = 0; letter <= 255; letter++) {
            if (letter == 128) {
                x.clear();
            }
            Due.due("type(" + letter + ")", x.type(letter), letter % 128 + 1);
        }
    }

    static void promise02_otherLettersAreBad() {
        Edges.refusedWhenRich("type(-1)", x -> x.type(-1), BAD);
        Edges.refusedWhenRich("type(256)", x -> x.type(256), BAD);
        for (int letter : Edges.FAR) {
            Edges.refusedWhenRich("type(" + letter + ")", x -> x.type(letter), BAD);
        }
        Due.due("type(32 + 256)", new SceneShots().type(32 + 256), BAD);
    }

    static void promise02_the160thIsTakenThe161stIsFull() {
        SceneShots x = new SceneShots();
        Due.type(x, "a".repeat(158));
        Due.due("the 159th", x.type(97), 159);
        Due.due("the 160th", x.type(97), 160);
        Due.due("the 161st", x.type(97), FULL);
        Due.due("one more", x.type(0), FULL);
        Due.due("count(3)", x.count(3), 160);
    }

    static void promise02_fullChangesNothing() {
        Edges.refused("type(120)", Edges::full, x -> x.type(120), FULL);
        Edges.refused("type(32)", Edges::full, x -> x.type(32), FULL);
    }

    static void promise02_badComesAheadOfFull() {
        Edges.refused("type(-1)", Edges::full, x -> x.type(-1), BAD);
        Edges.refused("type(256)", Edges::full, x -> x.type(256), BAD);
    }

    static void promise02_roomAgainBehindTellsAndClear() {
        SceneShots x = new SceneShots();
        Edges.full(x);
        Due.due("tells()", x.tells(), 1);
        Due.due("type(32) behind tells()", x.type(32), 1);
        SceneShots y = new SceneShots();
        Edges.full(y);
        Due.due("clear()", y.clear(), 160);
        Due.due("type(32) behind clear()", y.type(32), 1);
    }

    // ---- clear

    static void promise03_howManyLettersItHad() {
        for (int letters : new int[] {0, 1, 2, 159, 160}) {
            SceneShots x = new SceneShots();
            Due.type(x, "a".repeat(letters));
            Due.due("clear()", x.clear(), letters);
            Due.due("count(3)", x.count(3), 0);
            Due.due("clear() again", x.clear(), 0);
        }
    }

    static void promise03_refusedLettersAreNone() {
        SceneShots x = new SceneShots();
        x.type(97);
        x.type(256);
        x.type(-1);
        Due.due("clear()", x.clear(), 1);
        Due.type(x, "a".repeat(165));
        Due.due("clear() of 165", x.clear(), 160);
    }

    static void promise03_theTextTellsNothingBehindIt() {
        SceneShots x = Due.told("lines 01;");
        Due.type(x, "lines 011;");
        x.clear();
        Due.due("tells()", x.tells(), 0);
        Due.due("count(0)", x.count(0), 0);
    }

    static void promise03_nothingButTheTextIsChanged() {
        Shown.alike("clear()", x -> {
            Edges.rich(x);
            x.clear();
        }, x -> {
            Edges.scene(x);
            x.sees(0, 1);
        });
        Edges.leavesAll("clear() of no text", x -> {
            Edges.rich(x);
            x.clear();
        }, SceneShots::clear, 0);
    }

    static void promise03_aFaultsTextIsCleared() {
        SceneShots x = new SceneShots();
        Due.type(x, "lines 2;");
        Due.due("tells()", x.tells(), -16);
        Due.due("clear()", x.clear(), 8);
        Due.due("tells() behind it", x.tells(), 0);
    }

    // ---- tells: items and blanks

    static void promise04_noItemsTellAllAsAtFirst() {
        for (String text : new String[] {"", " ", " ".repeat(160)}) {
            SceneShots x = items(text, 0);
            Shown.sameScene("told '" + text + "'", x, new SceneShots());
            Due.due("count(4)", x.count(4), 1);
            SceneShots y = Due.told("players 1 2 3 4;lines 01;shot 1 2 0 1 0 7 9;");
            y.puts(0, 0);
            Due.type(y, text);
            Due.due("tells() of '" + text + "'", y.tells(), 0);
            Shown.sameScene("told '" + text + "' behind another", y, new SceneShots());
        }
    }

    static void promise04_whatIsNotToldIsAsAtFirst() {
        SceneShots before = Due.told("players 1 2 3 4;lines 01;shot 5 6 2 3 0 7 8;");
        Due.tell(before, "lines 011;");
        Shown.sameScene("lines alone", before, Due.told("lines 011;"));
        Due.due("player(0, 0)", before.player(0, 0), 3);
        Due.due("count(1)", before.count(1), 0);
        Due.tell(before, "players 1 2 3 4;");
        Shown.sameScene("players alone", before, Due.told("players 1 2 3 4;"));
        Due.due("count(0)", before.count(0), 0);
        Due.tell(before, SHOT);
        Shown.sameScene("a shot alone", before, Due.told(SHOT));
        Due.due("player(0, 0)", before.player(0, 0), 3);
        Due.due("count(0)", before.count(0), 0);
        Due.due("count(1)", before.count(1), 1);
    }

    static void promise04_howManyItems() {
        items("lines 0;", 1);
        items("players 1 2 3 4;", 1);
        items(SHOT, 1);
        items("lines 0;players 1 2 3 4;", 2);
        items("players1 2 3 4;lines01010101;" + SHOT.repeat(6), 8);
        items(SHOT.repeat(3) + "lines01010101;" + SHOT.repeat(2) + "players1 2 3 4;" + SHOT, 8);
        items(SHOT.repeat(6) + "lines01010101;players1 2 3 4;", 8);
    }

    static void promise04_blanksAheadBetweenBehind() {
        String dense = "players1 2 3 4;lines01;shot1 2 0 1 0 7 9;";
        String wide = "  players  1  2  3  4  ;  lines  01  ;  shot  1  2  0  1  0  7  9  ;  ";
        Shown.sameScene("blanks", items(dense, 3), items(wide, 3));
        items(" lines 0;", 1);
        items("lines 0; ", 1);
        items("lines 0 ;", 1);
        items("lines0;", 1);
        items("lines" + " ".repeat(153) + "0;", 1);
        items("lines0;" + " ".repeat(153), 1);
        items(" ".repeat(153) + "lines0;", 1);
    }

    static void promise04_blanksAreNeededBetweenFigures() {
        fault("players12 3 4;", 7);
        fault("players1 23 4;", 9);
        fault("players1 2 34;", 11);
        fault("players 1234;", 8);
        fault("shot12 0 1 0 7 9;", 4);
        fault("shot1 2 0 1 0 79;", 14);
        fault("shot 1201079;", 5);
    }

    static void promise04_blanksInsideATokenMakeTwo() {
        fault("li nes 0;", 0);
        fault("lines 0;play ers 1 2 3 4;", 8);
        fault("lines 0 1;", 8);
    }

    /** What stands behind lines 0 and ahead of its ; for each letter that there is. */
    static void promise04_eachLetterBehindAFigure() {
        for (int letter = 0; letter <= 255; letter++) {
            String text = "lines 0" + (char) letter + ";";
            if (letter == ' ' || letter == '0' || letter == '1') {
                items(text, 1);
            } else if (letter >= '2' && letter <= '9') {
                faultOfNew(text, 6);
            } else if (letter == ';') {
                faultOfNew(text, 8);
            } else {
                faultOfNew(text, 7);
            }
        }
    }

    static void promise04_eachLetterBehindAWord() {
        for (int letter = 0; letter <= 255; letter++) {
            String text = "lines" + (char) letter + "0;";
            if (letter == ' ' || letter == '0' || letter == '1') {
                items(text, 1);
            } else if (letter >= 'a' && letter <= 'z') {
                faultOfNew(text, 0);
            } else {
                faultOfNew(text, 5);
            }
        }
    }

    static void promise04_eachLetterWhereAnItemBegins() {
        for (int letter = 0; letter <= 255; letter++) {
            if (letter != ' ') {
                faultOfNew("" + (char) letter, 0);
                faultOfNew("lines 0;" + (char) letter, 8);
                faultOfNew(" " + (char) letter + "lines 0;", 1);
            }
        }
    }

    static void promise04_justBlank32IsABlank() {
        for (int letter : new int[] {0, 9, 10, 11, 12, 13, 31, 33, 127, 128, 160, 255}) {
            fault("lines 0;" + (char) letter, 8);
            fault("shot 1" + (char) letter + "2 0 1 0 7 9;", 6);
        }
    }

    // ---- tells: words

    static void promise04_wordsThatAreNoneOfThese() {
        for (String word : WORDS) {
            for (int cut = 1; cut < word.length(); cut++) {
                fault(word.substring(0, cut) + " 0;", 0);
            }
            fault("  " + word + "s 0;", 2);
            fault(word + word + " 0;", 0);
            fault(word.substring(1) + " 0;", 0);
            fault(word.toUpperCase() + " 0;", 0);
            fault("a" + word, 0);
        }
        fault("a", 0);
        fault("z", 0);
        fault("lines 0;zz", 8);
    }

    static void promise04_eachLetterOfAWordCounts() {
        for (String word : WORDS) {
            for (int at = 0; at < word.length(); at++) {
                char other = word.charAt(at) == 'q' ? 'r' : 'q';
                faultOfNew(word.substring(0, at) + other + word.substring(at + 1) + " 0;", 0);
            }
        }
    }

    static void promise04_anItemBeginsByAWord() {
        fault(";", 0);
        fault(" ;", 1);
        fault("0", 0);
        fault("01 lines 0;", 0);
        fault("lines 0;;", 8);
        fault("lines 0; ;", 9);
        fault("lines 0;0", 8);
    }

    static void promise04_anItemIsEndedByItsStop() {
        fault("lines 0 lines 0;", 8);
        fault("lines 0 shot", 8);
        fault("lines 0players", 7);
        fault("players 1 2 3 4 5;", 16);
        fault("players 1 2 3 4 lines 0;", 16);
        fault("players 1 2 3 4lines 0;", 15);
        fault("shot 1 2 0 1 0 7 9 9;", 19);
        fault("shot 1 2 0 1 0 7 9 shot", 19);
        fault("shot 1 2 0 1 0 7 9#", 18);
    }

    static void promise04_wordsDontStandForFigures() {
        fault("lines lines", 6);
        fault("lines ;", 6);
        fault("lines a;", 6);
        fault("players ;", 8);
        fault("players shot", 8);
        fault("shot ;", 5);
        fault("shot players", 5);
        fault("shot-1 2 0 1 0 7 9;", 4);
    }

    static void promise04_playersOnceAtMost() {
        fault("players 1 2 3 4;players 1 2 3 4;", 16);
        fault("players 1 2 3 4; players", 17);
        fault("players 1 2 3 4;lines 0;" + SHOT + "players 5 5 6 6;", 42);
        fault("players 1 2 3 4;players 1 1 1 1;", 16);
    }

    static void promise04_linesOnceAtMost() {
        fault("lines 0;lines 0;", 8);
        fault("lines 0;  lines", 10);
        fault("lines 0;players 1 2 3 4;" + SHOT + "lines 1;", 42);
        fault("lines 0;lines 2;", 8);
    }

    static void promise04_toldOnceInEachText() {
        SceneShots x = Due.told("players 1 2 3 4;lines 0;");
        Due.due("told anew", Due.tell(x, "players 1 2 3 4;lines 0;"), 2);
        Due.due("a fault", Due.tell(x, "players 1 2 3 4;lines 0;x"), -34);
        Due.due("told anew behind a fault", Due.tell(x, "players 1 2 3 4;lines 0;"), 2);
    }

    static void promise04_sixShotsAreTakenASeventhIsAFault() {
        SceneShots x = items(SHOT.repeat(6), 6);
        Due.due("count(1)", x.count(1), 6);
        fault(SHOT.repeat(7), 108);
        fault(SHOT.repeat(6) + "shot", 108);
        fault(SHOT.repeat(6) + "  shot", 110);
        fault(SHOT.repeat(3) + "lines 01;" + SHOT.repeat(3) + "players1 2 3 4;shot", 132);
    }

    // ---- tells: figures

    private static String players(String... figures) {
        return "players " + String.join(" ", figures) + ";";
    }

    static void promise04_playersPlacesAre0To9() {
        for (int at = 0; at < 4; at++) {
            for (int figure = 0; figure <= 9; figure++) {
                String[] figures = {"1", "2", "3", "4"};
                figures[at] = "" + figure;
                SceneShots x = items(players(figures), 1);
                Due.due("player(" + at / 2 + ", " + at % 2 + ")", x.player(at / 2, at % 2), figure);
            }
            for (String wrong : new String[] {"10", "00", "01", "99", "-1", "a", ";", "players"}) {
                String[] figures = {"1", "2", "3", "4"};
                figures[at] = wrong;
                fault(players(figures), 8 + 2 * at);
            }
        }
    }

    static void promise04_playersAtOnePlace() {
        for (int place = 0; place < 100; place++) {
            String x = "" + place / 10;
            String y = "" + place % 10;
            String next = "" + (place + 1) % 10;
            String other = "" + (place / 10 + 1) % 10;
            faultOfNew(players(x, y, x, y), 14);
            items(players(x, y, x, next), 1);
            items(players(x, y, other, y), 1);
        }
        fault("players 1 2 1 2;", 14);
        fault("players 1 2 1 2", 14);
        fault("players1 2 1   2x", 15);
        items("players 1 2 2 1;", 1);
    }

    static void promise04_linesOf1To8Figures() {
        for (int many = 1; many <= 8; many++) {
            SceneShots x = items("lines " + "1".repeat(many) + ";", 1);
            Due.due("count(0)", x.count(0), many);
            Due.due("the last line", x.line(many - 1, 0), 1);
            Due.due("none behind it", x.line(many, 0), BAD);
        }
        fault("lines ;", 6);
        fault("lines 010101010;", 6);
        fault("lines  000000000", 7);
        fault("lines " + "0".repeat(154), 6);
    }

    static void promise04_figuresOfLinesAre0And1() {
        for (int at = 0; at < 8; at++) {
            StringBuilder one = new StringBuilder("00000000");
            one.setCharAt(at, '1');
            SceneShots x = items("lines " + one + ";", 1);
            for (int line = 0; line < 8; line++) {
                Due.due("line(" + line + ", 0) of " + one, x.line(line, 0), line == at ? 1 : 0);
            }
            for (char wrong = '2'; wrong <= '9'; wrong++) {
                one.setCharAt(at, wrong);
                faultOfNew("lines " + one + ";", 6);
            }
        }
        fault("lines 2;", 6);
        fault("lines 00000002;", 6);
        fault("lines 0000000002", 6);
    }

    private static String shot(String... figures) {
        return "shot " + String.join(" ", figures) + ";";
    }

    private static String[] figures(int at, String figure) {
        String[] figures = {"4", "5", "1", "3", "0", "7", "6"};
        figures[at] = figure;
        return figures;
    }

    /** X, Y 0 to 9; AIM 0 to 2; SIZE 1 to 5; FROM, TO 0 to 7; PRICE 1 to 9. */
    static void promise04_figuresOfShots() {
        int[] lowest = {0, 0, 0, 1, 0, 0, 1};
        int[] highest = {9, 9, 2, 5, 7, 7, 9};
        for (int at = 0; at < 7; at++) {
            for (int figure = 0; figure <= 9; figure++) {
                String text = shot(figures(at, "" + figure));
                if (figure < lowest[at] || figure > highest[at]) {
                    fault(text, 5 + 2 * at);
                } else {
                    Due.due("shot(0, " + at + ")", items(text, 1).shot(0, at), figure);
                }
            }
        }
    }

    static void promise04_figuresOfShotsAreJustOne() {
        for (int at = 0; at < 7; at++) {
            for (String wrong : new String[] {"10", "00", "01", "11", "-1", "a", ";", "shot"}) {
                fault(shot(figures(at, wrong)), 5 + 2 * at);
            }
        }
    }

    static void promise04_fromIsNoMoreThanTo() {
        for (int from = 0; from <= 7; from++) {
            for (int to = 0; to <= 9; to++) {
                String text = shot("4", "5", "1", "3", "" + from, "" + to, "6");
                if (to < from || to > 7) {
                    faultOfNew(text, 15);
                } else {
                    SceneShots x = items(text, 1);
                    Due.due("shot(0, 4)", x.shot(0, 4), from);
                    Due.due("shot(0, 5)", x.shot(0, 5), to);
                }
            }
        }
        fault("shot 4 5 1 3 1 0 6;", 15);
        fault("shot 4 5 1 3 7 6 6;", 15);
    }

    static void promise04_shotsMayCoverLinesThatAreNotThere() {
        SceneShots x = items("lines 0;shot 4 5 1 3 1 7 6;shot 4 5 1 3 0 7 6;", 3);
        Due.due("line(0, 3)", x.line(0, 3), 2);
        Due.due("shot(0, 5)", x.shot(0, 5), 7);
        items("shot 4 5 1 3 7 7 6;", 1);
    }

    // ---- tells: which fault, and what it leaves

    static void promise04_theFirstFaultIsTold() {
        fault("lines 2;players 1 1 1 1;", 6);
        fault("shot 1 2 3 9 9 9 0", 9);
        fault("players 1 1 1 1;#", 14);
        fault("# lines 2;", 0);
        fault("lines 0;shoot;lines", 8);
        fault("shot 1 2 0 1 5 4 0", 15);
    }

    static void promise04_aTextThatEndsTooEarly() {
        String whole = "players 1 2 3 4;lines 01;shot 1 2 0 1 0 7 9;";
        int[] wordStarts = {0, 16, 25};
        for (int length = 0; length <= whole.length(); length++) {
            String text = whole.substring(0, length);
            int items = text.length() - text.replace(";", "").length();
            int start = wordStarts[Math.min(items, 2)];
            boolean cutWord = length > start && length < start + WORDS[Math.min(items, 2)].length();
            if (text.isEmpty() || text.endsWith(";")) {
                items(text, items);
                items(text + "  ", items);
            } else if (cutWord) {
                fault(text, start);
                fault(text + "  ", start);
            } else {
                fault(text, length);
                fault(text + "  ", length + 2);
            }
        }
    }

    static void promise04_faultsAtTheTextsBounds() {
        fault("#" + " ".repeat(159), 0);
        fault(" ".repeat(159) + "#", 159);
        fault(" ".repeat(159) + "0", 159);
        fault(" ".repeat(159) + ";", 159);
        fault(" ".repeat(159) + "s", 159);
        fault(" ".repeat(153) + "lines 0", 160);
        fault("lines" + " ".repeat(155), 160);
        items(" ".repeat(152) + "lines 0;", 1);
    }

    static void promise04_aFaultsTextStaysAndCanBeEnded() {
        SceneShots x = new SceneShots();
        Due.type(x, "lines 0");
        Due.due("tells()", x.tells(), -17);
        Due.due("tells() again", x.tells(), -17);
        Due.due("type(49)", x.type('1'), 8);
        Due.due("tells()", x.tells(), -18);
        Due.due("type(59)", x.type(';'), 9);
        Due.due("tells()", x.tells(), 1);
        Due.due("count(0)", x.count(0), 2);
        Due.due("count(4)", x.count(4), 1);
    }

    static void promise04_noneOfAFaultsItemsIsTold() {
        fault("players 9 9 0 0;lines 111;shot 1 1 1 1 1 1 1;shot 1 1 1 1 1 1 0;", 62);
        fault("lines 1;shot 1 1 1 1 1 1 1;players 1 1 1 1;", 41);
        fault("shot 1 1 1 1 1 1 1;lines 112;", 25);
    }

    static void promise04_aTextToldIsEmptyThen() {
        SceneShots x = Due.told("lines 01;");
        Due.due("count(3)", x.count(3), 0);
        Due.due("type(32)", x.type(32), 1);
        Due.due("tells(): nothing is left of it", x.tells(), 0);
        Due.due("count(0)", x.count(0), 0);
    }

    static void promise04_theEditIsNoneEverywhere() {
        String text = "lines 01;shot 2 8 0 1 0 7 3;";
        SceneShots x = Due.told(text);
        x.puts(0, 0);
        x.puts(1, 0);
        Due.due("the same once more", Due.tell(x, text), 2);
        Due.due("line(0, 1)", x.line(0, 1), NONE);
        Due.due("line(1, 1)", x.line(1, 1), NONE);
        Due.due("count(4)", x.count(4), 4);
    }

    static void promise04_seenAndImagesStay() {
        for (int image = 0; image < 2; image++) {
            SceneShots x = Due.told("lines 01;shot 2 8 0 1 0 7 3;");
            x.puts(1, 0);
            x.keep(image);
            x.sees(0, 2);
            Due.tell(x, SHOT + "shot3 4 2 1 0 7 9;");
            Due.due("count(2)", x.count(2), 1);
            Due.due("which(1)", x.which(1), 1);
            Due.due("the other image, that was not kept", x.back(1 - image), STATE);
            Due.due("back(" + image + ")", x.back(image), 1);
            Due.due("line(1, 1)", x.line(1, 1), 0);
        }
    }
}
