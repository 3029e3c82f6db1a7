/**
 * All promises: many runs of calls, on the program and on the model beside it, with the whole
 * state looked at in the end. The calls come from a counter that is mixed, so every run of the test
 * is alike.
 */
public final class ModelTest {
    private static final int NONE = ShapeForms.NONE;
    private static final int RUNS = 20000;
    // What later calls answer is free: a round is begun only if it, too, ends ahead of that.
    private static final int CALLS = 512;
    private static final int CALLS_AT_LAST_ROUND = 60;
    private static final int[] ODD = {
        -1, 2, 3, 7, 8, 23, 24, 59, 60, NONE, NONE + 1, Integer.MIN_VALUE, Integer.MAX_VALUE};
    private static final Check CHECK = new Check();

    private final ShapeForms x = new ShapeForms();
    private final Model y = new Model();
    private final String name;
    private long state;
    private int calls;

    private ModelTest(int run) {
        name = "run " + run + ": ";
        state = run * 0x9E3779B97F4A7C15L + 1;
    }

    public static void main(String[] args) {
        for (int run = 0; run < RUNS && CHECK.wrong() < 20; run++) {
            new ModelTest(run).go();
        }
        CHECK.end();
    }

    private int below(int bound) {
        state = state * 6364136223846793005L + 1442695040888963407L;
        return (int) ((state >>> 33) % bound);
    }

    // Mostly a number that fits, now and then one that hardly does.
    private int some(int bound) {
        return below(25) == 0 ? ODD[below(ODD.length)] : below(Math.max(bound, 1));
    }

    private void due(String call, int got, int want) {
        calls++;
        CHECK.due(name + call, got, want);
    }

    private void go() {
        int few = 2 + below(4);
        while (calls <= CALLS_AT_LAST_ROUND) {
            forget();
            build(few);
            askSome();
            due("run()", x.run(), y.run());
            askSome();
            int claims = below(4);
            for (int i = 0; i < claims; i++) {
                claim(few);
                askSome();
            }
        }
        askAll();
        CHECK.isTrue(name + "has " + CALLS + " calls at most, not " + calls, calls <= CALLS);
    }

    private void forget() {
        if (below(2) == 0) {
            due("clear()", x.clear(), y.clear());
        }
        if (below(2) == 0) {
            due("empty()", x.empty(), y.empty());
        }
    }

    private void build(int few) {
        int nodes = below(4) == 0 ? below(26) : below(6);
        for (int i = 0; i < nodes; i++) {
            int key = some(3);
            due("node", x.node(key), y.node(key));
        }
        int many = y.count(0);
        for (int i = 0; i < 2 * many; i++) {
            int node = some(many);
            int f = some(2);
            int to = below(4) == 0 ? NONE : some(many);
            due("link", x.link(node, f, to), y.link(node, f, to));
        }
        for (int i = 0; i < few; i++) {
            int variable = some(few);
            int node = below(4) == 0 ? NONE : some(many);
            due("hold", x.hold(variable, node), y.hold(variable, node));
        }
        int length = below(20) == 0 ? 64 : below(14);
        for (int i = 0; i < length; i++) {
            instruction(few, length);
        }
    }

    private void instruction(int few, int length) {
        int op = some(11);
        if (op == 10 && below(3) != 0) {
            op = 3;
        }
        int place = y.count(1) + 1 + below(3);
        int a = op == 8 ? jump(place, length) : some(few);
        int b = op == 4 ? some(2) : op == 5 ? jump(place, length) : op == 0 || op == 9 ? some(3) : some(few);
        int c = op == 3 ? some(2) : op == 6 || op == 7 ? jump(place, length) : some(few);
        due("op(" + op + ", " + a + ", " + b + ", " + c + ")", x.op(op, a, b, c), y.op(op, a, b, c));
    }

    private int jump(int ahead, int length) {
        return below(3) == 0 ? some(length + 1) : ahead;
    }

    private void claim(int few) {
        int start = some(few);
        int form = below(30) == 0 ? some(8) : 1 + below(5);
        int n = some(6);
        int end = below(2) == 0 ? start : some(few);
        int aim = below(3) == 0 ? form : some(7);
        boolean keys = below(2) == 0;
        String call = "claim(" + start + ", " + form + ", " + n + ", " + end + ", " + aim + ", " + keys + ")";
        due(call, x.claim(start, form, n, end, aim, keys), y.claim(start, form, n, end, aim, keys));
        due(call + ", then why()", x.why(), y.why());
    }

    private void askSome() {
        int v = below(8);
        int form = below(7);
        int node = some(y.count(0));
        int what = below(3);
        due("told(0)", x.told(0), y.told(0));
        due("told(1)", x.told(1), y.told(1));
        due("form(" + v + ", " + form + ")", x.form(v, form), y.form(v, form));
        due("of(" + node + ", " + what + ")", x.of(node, what), y.of(node, what));
    }

    private void askAll() {
        for (int what = -1; what < 3; what++) {
            due("told(" + what + ")", x.told(what), y.told(what));
            due("count(" + what + ")", x.count(what), y.count(what));
        }
        for (int v = -1; v < 9; v++) {
            due("held(" + v + ")", x.held(v), y.held(v));
            due("size(" + v + ", false)", x.size(v, false), y.size(v, false));
            due("size(" + v + ", true)", x.size(v, true), y.size(v, true));
            for (int form = -1; form < 8; form++) {
                due("form(" + v + ", " + form + ")", x.form(v, form), y.form(v, form));
            }
        }
        for (int node = -1; node < 25; node++) {
            for (int what = -1; what < 4; what++) {
                due("of(" + node + ", " + what + ")", x.of(node, what), y.of(node, what));
            }
        }
    }
}
