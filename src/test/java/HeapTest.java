/** Promises 1, 4, 5, 6, 7, 10, 11 and (of nodes) 16: the heap that is built by hand. */
public final class HeapTest {
    private static final int BAD = ShapeForms.BAD;
    private static final int FULL = ShapeForms.FULL;
    private static final int NONE = ShapeForms.NONE;
    private static final Check CHECK = new Check();

    public static void main(String[] args) {
        newObject();
        nodes();
        links();
        variables();
        emptied();
        counts();
        CHECK.end();
    }

    private static void newObject() {
        ShapeForms x = new ShapeForms();
        CHECK.due("new: count(0)", x.count(0), 0);
        CHECK.due("new: count(1)", x.count(1), 0);
        for (int v = 0; v < 8; v++) {
            CHECK.due("new: held(" + v + ")", x.held(v), NONE);
        }
        CHECK.due("new: of(0, 0)", x.of(0, 0), BAD);
        CHECK.due("new: why()", x.why(), 0);
        CHECK.due("new: told(0)", x.told(0), 0);
        CHECK.due("new: told(1)", x.told(1), NONE);
        CHECK.due("new: empty()", x.empty(), 0);
        CHECK.due("new: clear()", x.clear(), 0);
        CHECK.due("new: run()", x.run(), 0);
        ShapeForms y = new ShapeForms();
        x.node(1);
        x.op(10, 0, 0, 0);
        CHECK.due("objects are apart: count(0)", y.count(0), 0);
        CHECK.due("objects are apart: count(1)", y.count(1), 0);
    }

    private static void nodes() {
        ShapeForms x = new ShapeForms();
        int[] keys = {0, -1, BAD, FULL, NONE, Integer.MIN_VALUE, Integer.MAX_VALUE, 7};
        for (int i = 0; i < keys.length; i++) {
            CHECK.due("node(" + keys[i] + ")", x.node(keys[i]), i);
            CHECK.due("of(" + i + ", 2)", x.of(i, 2), keys[i]);
            CHECK.due("of(" + i + ", 0)", x.of(i, 0), NONE);
            CHECK.due("of(" + i + ", 1)", x.of(i, 1), NONE);
        }
        for (int i = keys.length; i < 24; i++) {
            CHECK.due("node(5)", x.node(5), i);
        }
        CHECK.due("node(5), the 25th", x.node(5), FULL);
        CHECK.due("count(0)", x.count(0), 24);
        CHECK.due("of(23, 2)", x.of(23, 2), 5);
        for (int node : new int[] {24, -1, 25, NONE, Integer.MIN_VALUE, Integer.MAX_VALUE}) {
            CHECK.due("of(" + node + ", 0)", x.of(node, 0), BAD);
            CHECK.due("of(" + node + ", 2)", x.of(node, 2), BAD);
        }
        for (int what : new int[] {-1, 3, NONE, Integer.MIN_VALUE, Integer.MAX_VALUE}) {
            CHECK.due("of(0, " + what + ")", x.of(0, what), BAD);
        }
    }

    private static void links() {
        ShapeForms x = new ShapeForms();
        CHECK.due("link(0, 0, NONE), no node", x.link(0, 0, NONE), BAD);
        x.node(1);
        x.node(2);
        CHECK.due("link(0, 0, 1)", x.link(0, 0, 1), 0);
        CHECK.due("link(0, 1, 0)", x.link(0, 1, 0), 0);
        CHECK.due("of(0, 0)", x.of(0, 0), 1);
        CHECK.due("of(0, 1)", x.of(0, 1), 0);
        CHECK.due("of(1, 0)", x.of(1, 0), NONE);
        CHECK.due("of(1, 1)", x.of(1, 1), NONE);
        int[] wrong = {-1, 2, 23, 24, NONE + 1, Integer.MIN_VALUE, Integer.MAX_VALUE};
        for (int w : wrong) {
            CHECK.due("link(" + w + ", 0, 0)", x.link(w, 0, 0), BAD);
            CHECK.due("link(0, " + w + ", 0)", x.link(0, w, 0), BAD);
            CHECK.due("link(0, 0, " + w + ")", x.link(0, 0, w), BAD);
        }
        CHECK.due("link(NONE, 0, 0)", x.link(NONE, 0, 0), BAD);
        CHECK.due("of(0, 0), wrong calls change nothing", x.of(0, 0), 1);
        CHECK.due("of(0, 1), wrong calls change nothing", x.of(0, 1), 0);
        CHECK.due("link(0, 0, NONE)", x.link(0, 0, NONE), 0);
        CHECK.due("of(0, 0), taken away", x.of(0, 0), NONE);
        CHECK.due("of(0, 1), left", x.of(0, 1), 0);
        CHECK.due("of(0, 2), keys stay", x.of(0, 2), 1);
    }

    private static void variables() {
        ShapeForms x = new ShapeForms();
        CHECK.due("hold(0, 0), no node", x.hold(0, 0), BAD);
        CHECK.due("hold(0, NONE)", x.hold(0, NONE), 0);
        x.node(1);
        x.node(2);
        CHECK.due("hold(0, 1)", x.hold(0, 1), 0);
        CHECK.due("hold(7, 0)", x.hold(7, 0), 0);
        CHECK.due("held(0)", x.held(0), 1);
        CHECK.due("held(7)", x.held(7), 0);
        CHECK.due("held(1)", x.held(1), NONE);
        for (int w : new int[] {-1, 8, NONE, Integer.MIN_VALUE, Integer.MAX_VALUE}) {
            CHECK.due("hold(" + w + ", 0)", x.hold(w, 0), BAD);
            CHECK.due("held(" + w + ")", x.held(w), BAD);
        }
        for (int w : new int[] {-1, 2, 24, NONE - 1, Integer.MIN_VALUE, Integer.MAX_VALUE}) {
            CHECK.due("hold(0, " + w + ")", x.hold(0, w), BAD);
        }
        CHECK.due("held(0), wrong calls change nothing", x.held(0), 1);
        CHECK.due("hold(0, NONE)", x.hold(0, NONE), 0);
        CHECK.due("held(0), let go", x.held(0), NONE);
        CHECK.due("count(0), nodes stay", x.count(0), 2);
    }

    private static void emptied() {
        ShapeForms x = new ShapeForms();
        x.op(10, 0, 0, 0);
        x.node(1);
        x.node(2);
        x.link(0, 0, 1);
        x.link(0, 1, 1);
        for (int v = 0; v < 8; v++) {
            x.hold(v, 1);
        }
        CHECK.due("empty()", x.empty(), 2);
        CHECK.due("empty() again", x.empty(), 0);
        CHECK.due("count(0)", x.count(0), 0);
        CHECK.due("count(1), the program stays", x.count(1), 1);
        for (int v = 0; v < 8; v++) {
            CHECK.due("emptied: held(" + v + ")", x.held(v), NONE);
        }
        CHECK.due("of(0, 2)", x.of(0, 2), BAD);
        CHECK.due("node(9), numbered from 0 again", x.node(9), 0);
        CHECK.due("of(0, 0), nothing at first", x.of(0, 0), NONE);
        CHECK.due("of(0, 1), nothing at first", x.of(0, 1), NONE);
        CHECK.due("of(0, 2)", x.of(0, 2), 9);
    }

    private static void counts() {
        ShapeForms x = new ShapeForms();
        x.node(1);
        x.node(1);
        x.op(10, 0, 0, 0);
        CHECK.due("count(0)", x.count(0), 2);
        CHECK.due("count(1)", x.count(1), 1);
        for (int w : new int[] {-1, 2, NONE, Integer.MIN_VALUE, Integer.MAX_VALUE}) {
            CHECK.due("count(" + w + ")", x.count(w), BAD);
        }
    }
}
