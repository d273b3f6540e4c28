import java.util.Random;

/** Random runs of 512 calls against the plain model; the same ones each time. */
final class ModelTest {
    private static final int RUNS = 1500;
    private static final int CALLS = 512;
    private static final int MOST_WRONG = 20;

    private final Random random;
    private final int run;
    private final SceneShots x = new SceneShots();
    private final PlainModel model = new PlainModel();
    private int calls = 0;

    private ModelTest(int run) {
        this.run = run;
        this.random = new Random(run);
    }

    public static void main(String[] args) {
        for (int run = 0; run < RUNS && Due.wrong() < MOST_WRONG; run++) {
            new ModelTest(run).go();
        }
        Due.finish("ModelTest");
    }

    private void go() {
        while (calls + 3 <= CALLS && Due.wrong() < MOST_WRONG) {
            if (calls + 170 < CALLS && random.nextInt(60) == 0 || calls == 0) {
                tellText();
            } else {
                call();
            }
        }
    }

    private void due(String call, int got, int want) {
        calls++;
        Due.due("run " + run + ", call " + calls + ": " + call, got, want);
    }

    private int upTo(int most) {
        return random.nextInt(most + 1);
    }

    /** Mostly a number that stands, at times one beside it or far away. */
    private int about(int lowest, int highest) {
        switch (upTo(40)) {
            case 0:
                return lowest - 1;
            case 1:
                return highest + 1;
            case 2:
                return random.nextInt();
            default:
                return lowest + random.nextInt(Math.max(1, highest - lowest + 1));
        }
    }

    private void tellText() {
        String text = text();
        if (upTo(4) == 0) {
            text = spoilt(text);
        }
        if (upTo(9) != 0) {
            due("clear()", x.clear(), model.clear());
        }
        for (int at = 0; at < text.length(); at++) {
            int letter = text.charAt(at);
            due("type(" + letter + ")", x.type(letter), model.type(letter));
        }
        due("tells()", x.tells(), model.tells());
    }

    private String text() {
        StringBuilder text = new StringBuilder();
        boolean wide = upTo(2) == 0;
        int shots = upTo(9) == 0 ? 7 : upTo(6);
        int linesAt = upTo(9) == 0 ? -1 : upTo(shots);
        int playersAt = upTo(1) == 0 ? -1 : upTo(shots);
        for (int at = 0; at <= shots; at++) {
            if (at == linesAt) {
                text.append(lines());
            }
            if (at == playersAt) {
                text.append(players());
            }
            if (at < shots) {
                text.append(shot(wide));
            }
        }
        return text.substring(0, Math.min(text.length(), 160));
    }

    private String lines() {
        StringBuilder text = new StringBuilder(blanks() + "lines" + blanks());
        int most = upTo(30) == 0 ? 9 : 1 + upTo(7);
        for (int at = 0; at < most; at++) {
            text.append(upTo(150) == 0 ? 2 : upTo(1));
        }
        return text + blanks() + ";";
    }

    private String players() {
        int close = upTo(2) == 0 ? 1 : 9;
        return "players" + upTo(close) + " " + upTo(close) + " " + upTo(close) + " " + upTo(close) + blanks() + ";";
    }

    private String shot(boolean wide) {
        int from = wide ? upTo(2) : upTo(7);
        int to = wide ? 4 + upTo(3) : from + upTo(7 - from);
        int y = upTo(3) == 0 ? upTo(9) : 5 + upTo(4);
        return "shot" + upTo(9) + " " + y + " " + upTo(2) + " " + (1 + upTo(4)) + " " + from + " " + to + " "
                + (1 + upTo(8)) + ";";
    }

    private String blanks() {
        return " ".repeat(upTo(7) / 6);
    }

    private String spoilt(String text) {
        StringBuilder spoilt = new StringBuilder(text);
        int at = upTo(Math.max(0, text.length() - 1));
        String letters = "0123456789;; azlsp#A";
        char letter = upTo(9) == 0 ? (char) upTo(255) : letters.charAt(upTo(letters.length() - 1));
        if (text.isEmpty() || upTo(1) == 0) {
            spoilt.insert(at, letter);
        } else if (upTo(1) == 0) {
            spoilt.setCharAt(at, letter);
        } else if (upTo(1) == 0) {
            spoilt.deleteCharAt(at);
        } else {
            spoilt.setLength(at);
        }
        return spoilt.length() > 160 ? spoilt.substring(0, 160) : spoilt.toString();
    }

    private void call() {
        int lines = model.count(0) - 1;
        int shots = model.count(1) - 1;
        switch (upTo(13)) {
            case 0, 1, 2 -> puts(about(0, lines), about(0, shots));
            case 3 -> done(upTo(11), about(0, lines), about(0, shots));
            case 4 -> images(about(0, 1));
            case 5 -> seen(about(0, 2), about(-1, upTo(1) == 0 ? 2 : 5));
            case 6 -> askLine(about(0, lines), about(0, 3));
            case 7 -> askShot(about(0, shots), about(0, 10));
            case 8 -> askPlayer(about(0, 1), about(0, 1));
            case 9, 10 -> askEdit(about(0, 4));
            case 11, 12 -> plan(about(-2, lines), about(0, 1));
            default -> askCount(about(0, 4));
        }
    }

    private void puts(int line, int shot) {
        due("puts(" + line + ", " + shot + ")", x.puts(line, shot), model.puts(line, shot));
    }

    private void done(int which, int line, int shot) {
        if (which < 3) {
            due("takes(" + line + ")", x.takes(line), model.takes(line));
        } else if (which < 6) {
            due("makes()", x.makes(), model.makes());
        } else if (which < 11) {
            due("undo()", x.undo(), model.undo());
        } else {
            due("strikes(" + shot + ")", x.strikes(shot), model.strikes(shot));
        }
    }

    private void images(int image) {
        if (upTo(3) != 0) {
            due("keep(" + image + ")", x.keep(image), model.keep(image));
        } else {
            due("back(" + image + ")", x.back(image), model.back(image));
        }
    }

    private void seen(int what, int n) {
        if (upTo(2) != 0) {
            due("sees(" + what + ", " + n + ")", x.sees(what, n), model.sees(what, n));
        } else if (upTo(2) == 0) {
            due("forget()", x.forget(), model.forget());
        }
        int asked = about(0, 1);
        due("which(" + asked + ")", x.which(asked), model.which(asked));
    }

    private void askLine(int line, int what) {
        due("line(" + line + ", " + what + ")", x.line(line, what), model.line(line, what));
    }

    private void askShot(int shot, int what) {
        due("shot(" + shot + ", " + what + ")", x.shot(shot, what), model.shot(shot, what));
    }

    private void askPlayer(int player, int what) {
        due("player(" + player + ", " + what + ")", x.player(player, what), model.player(player, what));
    }

    private void askEdit(int what) {
        due("edit(" + what + ")", x.edit(what), model.edit(what));
    }

    private void askCount(int what) {
        due("count(" + what + ")", x.count(what), model.count(what));
    }

    private void plan(int k, int what) {
        due("best(" + k + ")", x.best(k), model.best(k));
        due("cheapest(" + what + ")", x.cheapest(what), model.cheapest(what));
        due("needed()", x.needed(), model.needed());
    }
}
