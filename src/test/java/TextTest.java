/** Promises 1 to 4: a new object, type, clear, tells. */
final class TextTest {
    private static final int BAD = SceneShots.BAD, FULL = SceneShots.FULL, STATE = SceneShots.STATE;
    private static final int NONE = SceneShots.NONE, NO = SceneShots.NO;
    private static final String SHORT_SHOT = "shot1 2 0 1 0 7 9;";

    public static void main(String[] args) {
        newObject();
        type();
        clear();
        textsThatTell();
        whatIsTold();
        faultsOfWords();
        faultsOfPlayers();
        faultsOfLines();
        faultsOfShots();
        faultsChangeNothing();
        whatTellsLeaves();
        Due.finish("TextTest");
    }

    private static void newObject() {
        SceneShots x = new SceneShots();
        for (int what = 0; what < 5; what++) {
            Due.due("new: count(" + what + ")", x.count(what), 0);
            Due.due("new: edit(" + what + ")", x.edit(what), 0);
        }
        Due.due("new: player(0, 0)", x.player(0, 0), 3);
        Due.due("new: player(0, 1)", x.player(0, 1), 5);
        Due.due("new: player(1, 0)", x.player(1, 0), 6);
        Due.due("new: player(1, 1)", x.player(1, 1), 5);
        Due.due("new: line(0, 0)", x.line(0, 0), BAD);
        Due.due("new: shot(0, 0)", x.shot(0, 0), NO);
        Due.due("new: undo()", x.undo(), STATE);
        Due.due("new: back(0)", x.back(0), STATE);
        Due.due("new: which(0)", x.which(0), 0);
        Due.due("new: which(1)", x.which(1), NONE);
        Due.due("new: makes()", x.makes(), STATE);
        Due.due("new: clear()", x.clear(), 0);
        Due.due("new: forget()", x.forget(), 0);
    }

    private static void type() {
        SceneShots x = new SceneShots();
        Due.due("type(0)", x.type(0), 1);
        Due.due("type(255)", x.type(255), 2);
        Due.due("type(-1)", x.type(-1), BAD);
        Due.due("type(256)", x.type(256), BAD);
        Due.due("type(least)", x.type(Integer.MIN_VALUE), BAD);
        Due.due("type(most)", x.type(Integer.MAX_VALUE), BAD);
        for (int letters = 3; letters <= 160; letters++) {
            Due.due("type(32)", x.type(32), letters);
        }
        Due.due("type(32) when full", x.type(32), FULL);
        Due.due("type(256) when full", x.type(256), BAD);
        Due.due("type(-1) when full", x.type(-1), BAD);
        Due.due("count(3) when full", x.count(3), 160);
    }

    private static void clear() {
        SceneShots x = new SceneShots();
        Due.type(x, "lines 0");
        Due.due("clear()", x.clear(), 7);
        Due.due("clear() again", x.clear(), 0);
        Due.due("count(3) behind clear()", x.count(3), 0);
        Due.type(x, "lines 1;");
        Due.due("tells() behind clear()", x.tells(), 1);
        Due.due("line(0, 0) behind clear()", x.line(0, 0), 1);
        Due.due("clear() behind tells()", x.clear(), 0);
        Due.type(x, " ".repeat(160));
        Due.due("clear() of a full text", x.clear(), 160);
        Due.due("type(32) behind it", x.type(32), 1);
    }

    private static void items(String text, int items) {
        Due.due("tells() of '" + text + "'", Due.tell(new SceneShots(), text), items);
    }

    private static void fault(String text, int place) {
        Due.due("tells() of '" + text + "'", Due.tell(new SceneShots(), text), -10 - place);
    }

    private static void textsThatTell() {
        items("", 0);
        items("   ", 0);
        items(" ".repeat(160), 0);
        items("lines01;", 1);
        items("lines 0 ;", 1);
        items("lines 01010101;", 1);
        items("players1 1 1 2;", 1);
        items("players 0 0 9 9;", 1);
        items("  players  9 0 0   9  ;  lines   01 ;shot1 2 0 1 0 7 9;  ", 3);
        items("shot 0 0 0 1 0 0 1;", 1);
        items("shot 9 9 2 5 7 7 9;", 1);
        items("shot 9 9 1 3 0 7 5;shot 9 9 1 3 0 7 5;", 2);
        items(SHORT_SHOT.repeat(6), 6);
        items(SHORT_SHOT.repeat(6) + "players1 1 2 1;lines01010101;", 8);
        items("shot1 2 0 1 0 7 9;lines 1;shot1 2 0 1 0 7 9;players1 1 2 1;shot1 2 0 1 0 7 9;", 5);
    }

    private static void whatIsTold() {
        SceneShots x = Due.told("players 1 2 3 4;lines 0110;shot 5 6 2 3 1 7 8;shot 0 9 1 5 0 0 1;");
        int[] places = {1, 2, 3, 4};
        for (int at = 0; at < 4; at++) {
            Due.due("told: player(" + at / 2 + ", " + at % 2 + ")", x.player(at / 2, at % 2), places[at]);
        }
        int[] speakers = {0, 1, 1, 0};
        for (int at = 0; at < 4; at++) {
            Due.due("told: line(" + at + ", 0)", x.line(at, 0), speakers[at]);
        }
        int[] first = {5, 6, 2, 3, 1, 7, 8};
        int[] second = {0, 9, 1, 5, 0, 0, 1};
        for (int what = 0; what < 7; what++) {
            Due.due("told: shot(0, " + what + ")", x.shot(0, what), first[what]);
            Due.due("told: shot(1, " + what + ")", x.shot(1, what), second[what]);
        }
        Due.due("told: lines", x.count(0), 4);
        Due.due("told: shots", x.count(1), 2);
    }

    private static void faultsOfWords() {
        fault(";", 0);
        fault(" ;", 1);
        fault("x", 0);
        fault("0", 0);
        fault(" 01", 1);
        fault("sho", 0);
        fault("line 0;", 0);
        fault("liness 0;", 0);
        fault("linesshot 0;", 0);
        fault("Lines 0;", 0);
        fault("linesA 0;", 5);
        fault("lines 0;;", 8);
        fault("lines 0;#", 8);
        fault("lines 0; \t", 9);
        fault("lines 0;\n", 8);
        fault("lines" + (char) 160 + "0;", 5);
        fault("`", 0);
        fault("{", 0);
        fault("/", 0);
        fault(":", 0);
        fault("" + (char) 0, 0);
        fault("" + (char) 255, 0);
        fault("players lines", 8);
        fault("shot shot", 5);
        fault("linesz 0;", 0);
        fault("aines 0;", 0);
        fault("linez 0;", 0);
        fault("lines 0z;", 7);
        fault("lines 0;z9", 8);
    }

    private static void faultsOfPlayers() {
        fault("players", 7);
        fault("players   ", 10);
        fault("players ;", 8);
        fault("players 1;", 9);
        fault("players 1 1 2 2", 15);
        fault("players 1 1 2 2  ", 17);
        fault("players 1 1 1 1;", 14);
        fault("players 1 1 1 1", 14);
        fault("players 12 1 2 2;", 8);
        fault("players 1 00 2 2;", 10);
        fault("players 1 1 2 22;", 14);
        fault("players 1 1 1 11;", 14);
        fault("players 1 1 2;", 13);
        fault("players 1 1 2 2 3;", 16);
        fault("players 1 a 2 2;", 10);
        fault("players 1 -1 2 2;", 10);
        fault("players 1 1 2 1;players 1 1 2 1;", 16);
        fault("players 1 1 2 1;lines 0; players", 25);
        fault("players 1 2 1 2;", 14);
        fault("players 0 9 0 9;", 14);
        items("players 1 2 2 1;", 1);
        items("players 1 2 1 1;", 1);
        items("players 1 2 2 2;", 1);
        items("players 2 1 1 1;", 1);
        items("players 1 2 1 3;", 1);
        items("players 1 2 3 2;", 1);
        items("players 3 5 6 5;", 1);
    }

    private static void faultsOfLines() {
        fault("lines", 5);
        fault("lines  ", 7);
        fault("lines ;", 6);
        fault("lines 0", 7);
        fault("lines 0 ", 8);
        fault("lines 2;", 6);
        fault("lines 012;", 6);
        fault("lines 00000002", 6);
        fault("lines 010101010;", 6);
        fault("lines 010101010", 6);
        fault("lines 0 0;", 8);
        fault("lines 0x1;", 7);
        fault("lines 0lines", 7);
        fault("lines 0;lines 0;", 8);
        fault("lines 0;lines", 8);
    }

    private static void faultsOfShots() {
        fault("shot 1 2 3 1 0 0 1;", 9);
        fault("shot 1 2 0 0 0 0 1;", 11);
        fault("shot 1 2 0 6 0 0 1;", 11);
        fault("shot 1 2 0 1 8 8 1;", 13);
        fault("shot 1 2 0 1 7 8 1;", 15);
        fault("shot 1 2 0 1 0 8 1;", 15);
        fault("shot 1 2 0 1 3 2 1;", 15);
        fault("shot 1 2 0 1 0 0 0;", 17);
        fault("shot 10 2 0 1 0 0 1;", 5);
        fault("shot 1 02 0 1 0 0 1;", 7);
        fault("shot 1 2 00 1 0 0 1;", 9);
        fault("shot 1 2 0 11 0 0 1;", 11);
        fault("shot 1 2 0 1 00 0 1;", 13);
        fault("shot 1 2 0 1 0 00 1;", 15);
        fault("shot 1 2 0 1 0 0 11;", 17);
        fault("shot 1 2 0 1 0 0 1", 18);
        fault("shot 1 2 0 1 0 0 1 1;", 19);
        fault("shot 1 2 0 1 0 0;", 16);
        fault("shot", 4);
        fault("shot 1 2 0", 10);
        fault(SHORT_SHOT.repeat(6) + "shot1 2 0 1 0 7 9;", 108);
        fault(SHORT_SHOT.repeat(6) + "  shot", 110);
        fault(SHORT_SHOT.repeat(6) + ";", 108);
        fault(SHORT_SHOT.repeat(6) + "players1 1 2 1;lines0; lines", 131);
        fault(" ".repeat(159) + "a", 159);
        fault(" ".repeat(155) + "lines", 160);
    }

    private static void faultsChangeNothing() {
        SceneShots x = Due.told("players 1 2 3 4;lines 01;shot 5 6 2 3 0 7 8;");
        x.puts(0, 0);
        String text = "players 9 9 0 0;lines 111;shot 1 1 1 1 1 1 1;shot 1 1 1 1 1 1 0;";
        Due.due("tells() by a fault", Due.tell(x, text), -10 - 62);
        Due.due("text stays", x.count(3), text.length());
        Due.due("lines stay", x.count(0), 2);
        Due.due("shots stay", x.count(1), 1);
        Due.due("what can be undone stays", x.count(4), 2);
        Due.due("players stay", x.player(0, 0), 1);
        Due.due("speakers stay", x.line(0, 0), 0);
        Due.due("the edit stays", x.line(0, 1), 0);
        Due.due("the shot stays", x.shot(0, 0), 5);
        Due.due("tells() again", x.tells(), -10 - 62);
        Due.due("undo() behind a fault", x.undo(), 1);
    }

    private static void whatTellsLeaves() {
        SceneShots x = Due.told("players 1 2 3 4;lines 01;shot 5 6 2 3 0 7 8;");
        x.keep(1);
        x.sees(0, 2);
        x.puts(1, 0);
        Due.due("tells() anew", Due.tell(x, "lines 110;"), 1);
        Due.due("text is empty", x.count(3), 0);
        Due.due("player not told", x.player(0, 0), 3);
        Due.due("player not told", x.player(1, 1), 5);
        Due.due("lines told", x.count(0), 3);
        Due.due("shots not told", x.count(1), 0);
        Due.due("the edit is none", x.line(1, 1), NONE);
        Due.due("seen stays", x.count(2), 1);
        Due.due("tells() of nothing", x.tells(), 0);
        Due.due("lines not told", x.count(0), 0);
        Due.due("undone", x.count(4), 4);
        Due.due("images stay", x.back(1), 1);
        Due.due("shot of the image", x.shot(0, 6), 8);
    }
}
