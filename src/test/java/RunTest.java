/** Promises 8 and 9: runs, and what is told of them. */
public final class RunTest {
    private static final int BAD = ShapeForms.BAD;
    private static final int NONE = ShapeForms.NONE;
    private static final Check CHECK = new Check();

    public static void main(String[] args) {
        nothingToDo();
        makesNodes();
        copiesAndLetsGo();
        getsLinks();
        putsLinks();
        goesOnIfNone();
        goesOnIfSame();
        goesOnIfLess();
        goesOnBehindTheEnd();
        changesKeys();
        ends();
        roomRunsOut();
        toldOutlives();
        CHECK.end();
    }

    private static ShapeForms program(int[]... instructions) {
        ShapeForms x = new ShapeForms();
        for (int i = 0; i < instructions.length; i++) {
            int[] part = instructions[i];
            CHECK.due("op " + part[0], x.op(part[0], part[1], part[2], part[3]), i);
        }
        return x;
    }

    private static int[] op(int op, int a, int b, int c) {
        return new int[] {op, a, b, c};
    }

    private static void runs(String name, ShapeForms x, int outcome, int done, int last) {
        CHECK.due(name + ": run()", x.run(), outcome);
        CHECK.due(name + ": told(0)", x.told(0), done);
        CHECK.due(name + ": told(1)", x.told(1), last);
    }

    private static void nothingToDo() {
        ShapeForms x = new ShapeForms();
        runs("empty program", x, 0, 0, NONE);
        for (int w : new int[] {-1, 2, NONE, Integer.MIN_VALUE, Integer.MAX_VALUE}) {
            CHECK.due("told(" + w + ")", x.told(w), BAD);
        }
    }

    private static void makesNodes() {
        ShapeForms x = program(op(0, 2, -5, 99), op(0, 2, NONE, -1));
        runs("NEW", x, 0, 2, 1);
        CHECK.due("held(2)", x.held(2), 1);
        CHECK.due("of(0, 2)", x.of(0, 2), -5);
        CHECK.due("of(1, 2)", x.of(1, 2), NONE);
        CHECK.due("of(1, 0)", x.of(1, 0), NONE);
        CHECK.due("of(1, 1)", x.of(1, 1), NONE);
        runs("NEW again, on what is there", x, 0, 2, 1);
        CHECK.due("count(0)", x.count(0), 4);
    }

    private static void copiesAndLetsGo() {
        ShapeForms x = program(op(2, 1, 0, 0), op(2, 2, 3, 0), op(1, 4, 0, 0));
        x.node(1);
        x.hold(0, 0);
        x.hold(2, 0);
        x.hold(4, 0);
        runs("COPY, NONE", x, 0, 3, 2);
        CHECK.due("held(0)", x.held(0), 0);
        CHECK.due("held(1)", x.held(1), 0);
        CHECK.due("held(2), a copy of nothing", x.held(2), NONE);
        CHECK.due("held(4)", x.held(4), NONE);
    }

    private static void getsLinks() {
        ShapeForms x = program(op(3, 1, 0, 0), op(3, 2, 0, 1), op(3, 0, 0, 1), op(3, 0, 0, 0), op(3, 3, 0, 0));
        x.node(1);
        x.node(2);
        x.node(3);
        x.link(0, 0, 1);
        x.link(0, 1, 2);
        x.hold(0, 0);
        x.hold(3, 1);
        runs("GET", x, 1, 5, 4);
        CHECK.due("held(1)", x.held(1), 1);
        CHECK.due("held(2)", x.held(2), 2);
        CHECK.due("held(0), a link that is nothing", x.held(0), NONE);
        CHECK.due("held(3), as it was", x.held(3), 1);
    }

    private static void putsLinks() {
        ShapeForms x = program(op(4, 0, 0, 1), op(4, 0, 1, 0), op(4, 1, 1, 2), op(4, 2, 0, 1));
        x.node(1);
        x.node(2);
        x.link(1, 1, 0);
        x.hold(0, 0);
        x.hold(1, 1);
        runs("PUT", x, 1, 4, 3);
        CHECK.due("of(0, 0)", x.of(0, 0), 1);
        CHECK.due("of(0, 1), itself", x.of(0, 1), 0);
        CHECK.due("of(1, 1), becomes nothing", x.of(1, 1), NONE);
        CHECK.due("of(1, 0)", x.of(1, 0), NONE);
    }

    private static void goesOnIfNone() {
        ShapeForms x = program(op(5, 0, 2, 0), op(0, 0, 1, 0), op(5, 0, 5, 0), op(10, 0, 0, 0));
        runs("IFNONE, nothing", x, 0, 2, 2);
        CHECK.due("count(0)", x.count(0), 0);
        x.node(1);
        x.hold(0, 0);
        runs("IFNONE, a node", x, 0, 4, 3);
        CHECK.due("count(0)", x.count(0), 2);
    }

    private static void goesOnIfSame() {
        ShapeForms x = program(op(6, 0, 1, 2), op(10, 0, 0, 0), op(0, 2, 1, 0));
        runs("IFSAME, both nothing", x, 0, 2, 2);
        x.hold(0, 0);
        runs("IFSAME, a node and nothing", x, 0, 2, 1);
        x.hold(1, 0);
        runs("IFSAME, the same node", x, 0, 2, 2);
        x.hold(1, 1);
        runs("IFSAME, two nodes of one key", x, 0, 2, 1);
        x.hold(0, NONE);
        runs("IFSAME, nothing and a node", x, 0, 2, 1);
    }

    private static void goesOnIfLess() {
        ShapeForms x = program(op(7, 0, 1, 2), op(10, 0, 0, 0), op(10, 0, 0, 0));
        int[] keys = {Integer.MIN_VALUE, -1, -1, 0, Integer.MAX_VALUE};
        for (int key : keys) {
            x.node(key);
        }
        for (int i = 0; i < keys.length; i++) {
            for (int j = 0; j < keys.length; j++) {
                x.hold(0, i);
                x.hold(1, j);
                runs("IFLESS " + keys[i] + ", " + keys[j], x, 0, 2, keys[i] < keys[j] ? 2 : 1);
            }
        }
        x.hold(0, NONE);
        runs("IFLESS, a nothing", x, 1, 1, 0);
        x.hold(1, NONE);
        runs("IFLESS, both nothing", x, 1, 1, 0);
        x.hold(0, 0);
        runs("IFLESS, b nothing", x, 1, 1, 0);
    }

    private static void goesOnBehindTheEnd() {
        runs("GOTO 59 of 1", program(op(8, 59, 0, 0)), 0, 1, 0);
        runs("GOTO 1 of 1", program(op(8, 1, 0, 0)), 0, 1, 0);
        runs("GOTO over one", program(op(8, 2, 0, 0), op(3, 0, 0, 0), op(10, 0, 0, 0)), 0, 2, 2);
    }

    private static void changesKeys() {
        ShapeForms x = program(op(9, 0, Integer.MIN_VALUE, 0), op(9, 1, 3, 0), op(9, 0, 8, 0));
        x.node(5);
        x.node(6);
        x.link(0, 0, 1);
        x.hold(0, 0);
        runs("KEY", x, 1, 2, 1);
        CHECK.due("of(0, 2), what was done stays", x.of(0, 2), Integer.MIN_VALUE);
        CHECK.due("of(0, 0)", x.of(0, 0), 1);
        CHECK.due("of(1, 2)", x.of(1, 2), 6);
    }

    private static void ends() {
        ShapeForms x = program(op(0, 0, 1, 0), op(10, 77, 77, 77), op(0, 1, 1, 0));
        runs("END", x, 0, 2, 1);
        CHECK.due("held(1)", x.held(1), NONE);
        CHECK.due("count(0)", x.count(0), 1);
    }

    private static void roomRunsOut() {
        ShapeForms x = program(op(0, 1, 5, 0), op(8, 0, 0, 0));
        x.node(1);
        runs("ROOM", x, 3, 47, 0);
        CHECK.due("count(0)", x.count(0), 24);
        CHECK.due("held(1), the last that came", x.held(1), 23);
        CHECK.due("of(0, 2)", x.of(0, 2), 1);
        CHECK.due("of(23, 2)", x.of(23, 2), 5);
        runs("ROOM at once", x, 3, 1, 0);
        CHECK.due("held(1), as it was", x.held(1), 23);
    }

    private static void toldOutlives() {
        ShapeForms x = program(op(1, 0, 0, 0), op(3, 0, 0, 0));
        runs("NULL", x, 1, 2, 1);
        x.clear();
        x.empty();
        x.node(1);
        CHECK.due("told(0), of the latest run", x.told(0), 2);
        CHECK.due("told(1), of the latest run", x.told(1), 1);
        CHECK.due("claim of a wrong size", x.claim(0, 1, 6, 0, 1, true), BAD);
        CHECK.due("told(0), no run since", x.told(0), 2);
        CHECK.due("claim of no starts", x.claim(0, 3, 0, 0, 3, true), 0);
        CHECK.due("told(1), no run since", x.told(1), 1);
        CHECK.due("claim on an empty program", x.claim(0, 1, 1, 0, 1, true), 4);
        CHECK.due("told(0), of the claim's last run", x.told(0), 0);
        CHECK.due("told(1), of the claim's last run", x.told(1), NONE);
    }
}
