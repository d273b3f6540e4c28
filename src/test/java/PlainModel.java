import java.util.ArrayDeque;
import java.util.ArrayList;
import java.util.Arrays;
import java.util.List;
import java.util.regex.Matcher;
import java.util.regex.Pattern;

/** The document once more, in the plainest form: lists, copies of all, and every EDIT tried. */
final class PlainModel {
    private static final int BAD = -1, STATE = -2, FULL = -3, NONE = -9, NO = -1000000;
    private static final Pattern TOKEN = Pattern.compile("[a-z]+|[0-9]+|[^ ]", Pattern.DOTALL);

    /** A state is never changed once it has been handed on: each change makes a copy. */
    private static final class State {
        int[] players = {3, 5, 6, 5};
        String lines = "";
        List<int[]> shots = new ArrayList<>();
        int[] edit = new int[0];
        List<int[]> whole;

        State copy() {
            State other = new State();
            other.players = players.clone();
            other.lines = lines;
            other.shots = new ArrayList<>(shots);
            other.edit = edit.clone();
            return other;
        }
    }

    private State state = new State();
    private String text = "";
    private final ArrayDeque<State> past = new ArrayDeque<>();
    private final State[] images = new State[2];
    private final List<int[]> seen = new ArrayList<>();

    private void done(State next) {
        past.push(state);
        if (past.size() > 8) {
            past.removeLast();
        }
        state = next;
    }

    int type(int letter) {
        if (letter < 0 || letter > 255) {
            return BAD;
        }
        if (text.length() == 160) {
            return FULL;
        }
        text += (char) letter;
        return text.length();
    }

    int clear() {
        int had = text.length();
        text = "";
        return had;
    }

    int tells() {
        List<String> tokens = new ArrayList<>();
        List<Integer> starts = new ArrayList<>();
        for (Matcher m = TOKEN.matcher(text); m.find();) {
            tokens.add(m.group());
            starts.add(m.start());
        }
        State next = new State();
        int items = 0;
        int at = 0;
        boolean players = false;
        while (at < tokens.size()) {
            String word = tokens.get(at);
            int wanted;
            if (word.equals("players") && !players) {
                players = true;
                wanted = 4;
            } else if (word.equals("lines") && next.lines.isEmpty()) {
                wanted = 1;
            } else if (word.equals("shot") && next.shots.size() < 6) {
                wanted = 7;
            } else {
                return -10 - starts.get(at);
            }
            List<String> got = new ArrayList<>();
            for (at++; got.size() < wanted; at++) {
                if (at == tokens.size()) {
                    return -10 - text.length();
                }
                got.add(tokens.get(at));
                if (!stands(word, got)) {
                    return -10 - starts.get(at);
                }
            }
            if (at == tokens.size()) {
                return -10 - text.length();
            }
            if (!tokens.get(at).equals(";")) {
                return -10 - starts.get(at);
            }
            at++;
            items++;
            switch (word) {
                case "players" -> next.players = numbers(got);
                case "lines" -> next.lines = got.get(0);
                default -> next.shots.add(numbers(got));
            }
        }
        next.edit = new int[next.lines.length()];
        Arrays.fill(next.edit, NONE);
        done(next);
        text = "";
        return items;
    }

    private static int[] numbers(List<String> figures) {
        return figures.stream().mapToInt(Integer::parseInt).toArray();
    }

    /** Whether the last of the TOKENS can stand behind those ahead of it. */
    private static boolean stands(String word, List<String> got) {
        String last = got.get(got.size() - 1);
        if (word.equals("lines")) {
            return last.matches("[01]{1,8}");
        }
        if (word.equals("players")) {
            return last.matches("[0-9]")
                    && !(got.size() == 4 && got.get(0).equals(got.get(2)) && got.get(1).equals(last));
        }
        String[] forms = {"[0-9]", "[0-9]", "[0-2]", "[1-5]", "[0-7]", "[0-7]", "[1-9]"};
        return last.matches(forms[got.size() - 1])
                && !(got.size() == 6 && last.compareTo(got.get(4)) < 0);
    }

    private boolean noLine(int line) {
        return line < 0 || line >= state.lines.length();
    }

    private boolean noShot(int shot) {
        return shot < 0 || shot >= state.shots.size();
    }

    private boolean covers(int shot, int line) {
        return state.shots.get(shot)[4] <= line && state.shots.get(shot)[5] >= line;
    }

    int puts(int line, int shot) {
        if (noLine(line) || noShot(shot)) {
            return BAD;
        }
        if (state.edit[line] == shot || !covers(shot, line)) {
            return STATE;
        }
        State next = state.copy();
        int had = next.edit[line];
        next.edit[line] = shot;
        done(next);
        return had;
    }

    int takes(int line) {
        if (noLine(line)) {
            return BAD;
        }
        if (state.edit[line] == NONE) {
            return STATE;
        }
        State next = state.copy();
        int had = next.edit[line];
        next.edit[line] = NONE;
        done(next);
        return had;
    }

    int strikes(int shot) {
        if (noShot(shot)) {
            return BAD;
        }
        State next = state.copy();
        next.shots.remove(shot);
        int losers = 0;
        for (int line = 0; line < next.edit.length; line++) {
            int had = state.edit[line];
            losers += had == shot ? 1 : 0;
            next.edit[line] = had == shot ? NONE : had > shot ? had - 1 : had;
        }
        done(next);
        return losers;
    }

    int makes() {
        int[] best = bestEdit();
        if (best == null || Arrays.equals(best, state.edit)) {
            return STATE;
        }
        State next = state.copy();
        next.edit = best.clone();
        int others = 0;
        for (int line = 0; line < best.length; line++) {
            others += best[line] != state.edit[line] ? 1 : 0;
        }
        done(next);
        return others;
    }

    int undo() {
        if (past.isEmpty()) {
            return STATE;
        }
        state = past.pop();
        return past.size();
    }

    int line(int line, int what) {
        if (noLine(line) || what < 0 || what > 3) {
            return BAD;
        }
        int bits = 0;
        for (int shot = 0; shot < state.shots.size(); shot++) {
            bits += covers(shot, line) ? 1 << shot : 0;
        }
        int[] answers = {state.lines.charAt(line) - '0', state.edit[line], reaction(line, state.edit[line]) ? 1 : 0, bits};
        return answers[what];
    }

    private boolean reaction(int line, int shot) {
        return shot != NONE && state.shots.get(shot)[2] == (state.lines.charAt(line) == '0' ? 1 : 0);
    }

    private int side(int shot) {
        int[] p = state.players;
        int[] s = state.shots.get(shot);
        int one = (p[2] - p[0]) * (s[1] - p[1]);
        int other = (p[3] - p[1]) * (s[0] - p[0]);
        return one > other ? 1 : one < other ? -1 : 0;
    }

    private int way(int shot, int at) {
        return 2 * state.shots.get(shot)[at] - (state.players[at] + state.players[at + 2]);
    }

    /** By the angle, which is never just 30 degrees between whole numbers. */
    private boolean near(int one, int other) {
        if (way(one, 0) == 0 && way(one, 1) == 0 || way(other, 0) == 0 && way(other, 1) == 0) {
            return true;
        }
        double apart = Math.atan2(way(one, 1), way(one, 0)) - Math.atan2(way(other, 1), way(other, 0));
        return Math.cos(apart) > Math.cos(Math.PI / 6);
    }

    private boolean cut(int one, int other) {
        if (one == other || side(one) + side(other) == 0 && side(one) != 0) {
            return false;
        }
        int[] s = state.shots.get(one);
        int[] t = state.shots.get(other);
        return s[2] != t[2] || Math.abs(s[3] - t[3]) >= 2 || !near(one, other);
    }

    int shot(int shot, int what) {
        if (noShot(shot) || what < 0 || what > 10) {
            return NO;
        }
        if (what < 7) {
            return state.shots.get(shot)[what];
        }
        int bits = 0;
        for (int other = 0; other < state.shots.size(); other++) {
            bits += cut(shot, other) ? 1 << other : 0;
        }
        int[] answers = {side(shot), way(shot, 0), way(shot, 1), bits};
        return answers[what - 7];
    }

    int player(int player, int what) {
        return (player == 0 || player == 1) && (what == 0 || what == 1) ? state.players[player * 2 + what] : BAD;
    }

    private int[] measures(int[] edit) {
        int[] measures = new int[5];
        int used = 0;
        for (int line = 0; line < edit.length; line++) {
            if (edit[line] == NONE) {
                measures[0]++;
                continue;
            }
            used |= 1 << edit[line];
            if (line == 0 || edit[line - 1] == NONE) {
                continue;
            }
            boolean unlike = edit[line] != edit[line - 1];
            measures[1] += unlike && !cut(edit[line - 1], edit[line]) ? 1 : 0;
            measures[2] += reaction(line, edit[line]) && reaction(line - 1, edit[line - 1]) ? 1 : 0;
            measures[3] += unlike ? 1 : 0;
        }
        measures[4] = Integer.bitCount(used);
        return measures;
    }

    int edit(int what) {
        return what < 0 || what > 4 ? BAD : measures(state.edit)[what];
    }

    /** All WHOLE EDITS, those of lower SHOTS at the first LINES first. */
    private List<int[]> whole() {
        if (state.whole == null) {
            state.whole = new ArrayList<>();
            go(new int[state.lines.length()], 0);
        }
        return state.whole;
    }

    private void go(int[] edit, int line) {
        int[] measures = measures(Arrays.copyOf(edit, line));
        if (measures[1] + measures[2] > 0) {
            return;
        }
        if (line == edit.length) {
            state.whole.add(edit.clone());
            return;
        }
        for (int shot = 0; shot < state.shots.size(); shot++) {
            if (covers(shot, line)) {
                edit[line] = shot;
                go(edit, line + 1);
            }
        }
    }

    private int[] bestEdit() {
        int[] best = null;
        int least = 0;
        for (int[] edit : whole()) {
            int[] measures = measures(edit);
            int rank = 100 * measures[4] + measures[3];
            if (best == null || rank < least) {
                best = edit;
                least = rank;
            }
        }
        return best;
    }

    int best(int k) {
        if (k < -2 || k >= state.lines.length()) {
            return BAD;
        }
        int[] best = bestEdit();
        if (best == null) {
            return NONE;
        }
        return k == -2 ? measures(best)[4] : k == -1 ? measures(best)[3] : best[k];
    }

    private boolean[] setsThatDo() {
        boolean[] sets = new boolean[1 << state.shots.size()];
        boolean[] exactly = new boolean[sets.length];
        for (int[] edit : whole()) {
            int used = 0;
            for (int shot : edit) {
                used |= 1 << shot;
            }
            exactly[used] = true;
        }
        for (int set = 0; set < sets.length; set++) {
            for (int used = 0; used < sets.length; used++) {
                sets[set] |= exactly[used] && (used & set) == used;
            }
        }
        return sets;
    }

    int cheapest(int what) {
        if (what != 0 && what != 1) {
            return BAD;
        }
        boolean[] sets = setsThatDo();
        int cheapest = NONE;
        float least = Float.MAX_VALUE;
        for (int set = 0; set < sets.length; set++) {
            float dear = 0f;
            for (int shot = 0; shot < state.shots.size(); shot++) {
                if ((set & 1 << shot) != 0) {
                    dear += (float) state.shots.get(shot)[6] / 3f;
                }
            }
            if (sets[set] && dear < least) {
                cheapest = set;
                least = dear;
            }
        }
        return cheapest == NONE || what == 0 ? cheapest : (int) (1000f * least);
    }

    int needed() {
        boolean[] sets = setsThatDo();
        int all = sets.length - 1;
        int bits = 0;
        for (int shot = 0; shot < state.shots.size(); shot++) {
            bits += sets[all] && !sets[all - (1 << shot)] ? 1 << shot : 0;
        }
        return bits;
    }

    int sees(int what, int n) {
        if (what < 0 || what > 2 || n < -1 || n > 5) {
            return BAD;
        }
        if (seen.size() == 6) {
            return FULL;
        }
        seen.add(new int[] {what, n});
        return seen.size();
    }

    int forget() {
        int had = seen.size();
        seen.clear();
        return had;
    }

    int which(int what) {
        if (what != 0 && what != 1) {
            return BAD;
        }
        List<Integer> fitting = new ArrayList<>();
        for (int shot = 0; shot < state.shots.size(); shot++) {
            int[] of = {state.shots.get(shot)[2], state.shots.get(shot)[3], side(shot)};
            if (seen.stream().allMatch(one -> of[one[0]] == one[1])) {
                fitting.add(shot);
            }
        }
        return what == 0 ? fitting.size() : fitting.isEmpty() ? NONE : fitting.get(0);
    }

    int keep(int image) {
        if (image != 0 && image != 1) {
            return BAD;
        }
        images[image] = state;
        return state.shots.size();
    }

    int back(int image) {
        if (image != 0 && image != 1) {
            return BAD;
        }
        if (images[image] == null) {
            return STATE;
        }
        state = images[image];
        past.clear();
        return state.shots.size();
    }

    int count(int what) {
        int[] counts = {state.lines.length(), state.shots.size(), seen.size(), text.length(), past.size()};
        return what < 0 || what > 4 ? BAD : counts[what];
    }
}
