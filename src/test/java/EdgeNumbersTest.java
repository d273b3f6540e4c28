import java.util.function.Consumer;
import java.util.function.IntBinaryOperator;

/** Each call by each pair of edge numbers, in states that are empty, rich and full, against the plain model. */
final class EdgeNumbersTest {
    private static final int[] NUMBERS = {Integer.MIN_VALUE, -1000000, -257, -10, -9, -8, -3, -2, -1, 0, 1, 2, 3, 4, 5,
        6, 7, 8, 9, 10, 11, 31, 32, 33, 63, 64, 159, 160, 161, 255, 256, 257, 1 << 30, Integer.MAX_VALUE};

    /** The object and the model, brought to the same state by the same calls. */
    private static final class Pair {
        final SceneShots x = new SceneShots();
        final PlainModel model = new PlainModel();

        void tell(String text) {
            type(text);
            x.tells();
            model.tells();
        }

        void type(String text) {
            for (char letter : text.toCharArray()) {
                x.type(letter);
                model.type(letter);
            }
        }

        void puts(int line, int shot) {
            x.puts(line, shot);
            model.puts(line, shot);
        }

        void seesAndKeeps(int times) {
            for (int time = 0; time < times; time++) {
                x.sees(1, 1);
                model.sees(1, 1);
            }
            x.keep(0);
            model.keep(0);
        }
    }

    public static void main(String[] args) {
        allCalls("new", pair -> { });
        allCalls("lines alone", pair -> pair.tell("lines 01;"));
        allCalls("shots alone", pair -> pair.tell("shot2 8 0 1 0 7 3;".repeat(6)));
        allCalls("rich", EdgeNumbersTest::rich);
        allCalls("full", EdgeNumbersTest::full);
        Due.finish("EdgeNumbersTest");
    }

    private static void rich(Pair pair) {
        pair.tell("lines 0110;shot 5 6 2 3 1 7 8;shot 0 9 1 5 0 2 1;shot 2 7 0 1 0 7 2;");
        pair.puts(1, 0);
        pair.seesAndKeeps(1);
        pair.type("lines 01");
    }

    private static void full(Pair pair) {
        pair.tell(Edges.SIX_SHOTS_EIGHT_LINES);
        for (int line = 0; line < 8; line++) {
            pair.puts(line, 0);
        }
        pair.seesAndKeeps(6);
        pair.type(" ".repeat(160));
    }

    private static void allCalls(String name, Consumer<Pair> state) {
        Due.within(name);
        for (int a : NUMBERS) {
            ofOne(state, a);
            for (int b : NUMBERS) {
                ofTwo(state, a, b);
            }
        }
    }

    private static void ofOne(Consumer<Pair> state, int a) {
        Pair pair = new Pair();
        state.accept(pair);
        SceneShots x = pair.x;
        PlainModel model = pair.model;
        String by = "(" + a + ")";
        Due.due("edit" + by, x.edit(a), model.edit(a));
        Due.due("best" + by, x.best(a), model.best(a));
        Due.due("cheapest" + by, x.cheapest(a), model.cheapest(a));
        Due.due("which" + by, x.which(a), model.which(a));
        Due.due("count" + by, x.count(a), model.count(a));
        Due.due("type" + by, x.type(a), model.type(a));
        Due.due("takes" + by, x.takes(a), model.takes(a));
        Due.due("strikes" + by, x.strikes(a), model.strikes(a));
        Due.due("makes()", x.makes(), model.makes());
        Due.due("undo()", x.undo(), model.undo());
        Due.due("back" + by, x.back(a), model.back(a));
        Due.due("keep" + by, x.keep(a), model.keep(a));
        Due.due("tells()", x.tells(), model.tells());
        Due.due("needed()", x.needed(), model.needed());
        Due.due("forget()", x.forget(), model.forget());
        Due.due("clear()", x.clear(), model.clear());
    }

    private static void ofTwo(Consumer<Pair> state, int a, int b) {
        Pair pair = new Pair();
        state.accept(pair);
        due("line", a, b, pair.x::line, pair.model::line);
        due("shot", a, b, pair.x::shot, pair.model::shot);
        due("player", a, b, pair.x::player, pair.model::player);
        due("sees", a, b, pair.x::sees, pair.model::sees);
        due("puts", a, b, pair.x::puts, pair.model::puts);
        due("line", a, b, pair.x::line, pair.model::line);
        Due.due("count(4)", pair.x.count(4), pair.model.count(4));
    }

    private static void due(String call, int a, int b, IntBinaryOperator got, IntBinaryOperator want) {
        Due.due(call + "(" + a + ", " + b + ")", got.applyAsInt(a, b), want.applyAsInt(a, b));
    }
}
