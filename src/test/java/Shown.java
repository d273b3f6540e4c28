import java.util.ArrayList;
import java.util.List;
import java.util.function.Consumer;
import java.util.function.ToIntFunction;

/** All that calls show of an object: what they answer now, and behind undo(), back() and tells(). */
final class Shown {
    private record Call(String name, ToIntFunction<SceneShots> made) {
    }

    private static final List<Call> SCENE = scene();
    private static final List<Call> COUNTS = counts();
    private static final List<Call> WAYS_ON = waysOn();

    private Shown() {
    }

    private static List<Call> scene() {
        List<Call> calls = new ArrayList<>();
        for (int at = 0; at < 4; at++) {
            int player = at / 2;
            int what = at % 2;
            calls.add(new Call("player(" + player + ", " + what + ")", x -> x.player(player, what)));
        }
        for (int at = 0; at < 32; at++) {
            int line = at / 4;
            int what = at % 4;
            calls.add(new Call("line(" + line + ", " + what + ")", x -> x.line(line, what)));
        }
        for (int at = 0; at < 66; at++) {
            int shot = at / 11;
            int what = at % 11;
            calls.add(new Call("shot(" + shot + ", " + what + ")", x -> x.shot(shot, what)));
        }
        for (int at = -2; at < 8; at++) {
            int k = at;
            calls.add(new Call("best(" + k + ")", x -> x.best(k)));
        }
        for (int at = 0; at < 5; at++) {
            int what = at;
            calls.add(new Call("edit(" + what + ")", x -> x.edit(what)));
        }
        calls.add(new Call("cheapest(0)", x -> x.cheapest(0)));
        calls.add(new Call("cheapest(1)", x -> x.cheapest(1)));
        calls.add(new Call("needed()", SceneShots::needed));
        calls.add(new Call("count(0)", x -> x.count(0)));
        calls.add(new Call("count(1)", x -> x.count(1)));
        return calls;
    }

    private static List<Call> counts() {
        List<Call> calls = new ArrayList<>();
        calls.add(new Call("which(0)", x -> x.which(0)));
        calls.add(new Call("which(1)", x -> x.which(1)));
        calls.add(new Call("count(2)", x -> x.count(2)));
        calls.add(new Call("count(3)", x -> x.count(3)));
        calls.add(new Call("count(4)", x -> x.count(4)));
        return calls;
    }

    /** Each is gone on a new object, as they change what is shown. */
    private static List<Call> waysOn() {
        List<Call> ways = new ArrayList<>();
        for (int at = 0; at <= 9; at++) {
            int times = at;
            ways.add(new Call(times + " times undo()", x -> undo(x, times)));
        }
        ways.add(new Call("back(0)", x -> x.back(0)));
        ways.add(new Call("back(1)", x -> x.back(1)));
        ways.add(new Call("tells()", SceneShots::tells));
        ways.add(new Call("type(59), tells()", x -> 1000 * x.type(59) + x.tells()));
        return ways;
    }

    private static int undo(SceneShots x, int times) {
        int answer = 0;
        for (int at = 0; at < times; at++) {
            answer = x.undo();
        }
        return answer;
    }

    /** No call tells apart two objects, made in these two ways. */
    static void alike(String name, Consumer<SceneShots> one, Consumer<SceneShots> other) {
        for (Call way : WAYS_ON) {
            SceneShots x = new SceneShots();
            SceneShots y = new SceneShots();
            one.accept(x);
            other.accept(y);
            String behind = name + ", then " + way.name;
            Due.due(behind, way.made.applyAsInt(x), way.made.applyAsInt(y));
            sameAnswers(behind, SCENE, x, y);
            sameAnswers(behind, COUNTS, x, y);
        }
    }

    /** PLAYERS, LINES, SHOTS and THE EDIT of both are the same, whatever else is not. */
    static void sameScene(String name, SceneShots x, SceneShots y) {
        sameAnswers(name, SCENE, x, y);
    }

    private static void sameAnswers(String name, List<Call> calls, SceneShots x, SceneShots y) {
        for (Call call : calls) {
            Due.due(name + ", then " + call.name, call.made.applyAsInt(x), call.made.applyAsInt(y));
        }
    }
}
