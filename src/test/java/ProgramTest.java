/** Promises 2, 3 and (of instructions) 16: the program that is written. */
public final class ProgramTest {
    private static final int BAD = ShapeForms.BAD;
    private static final int FULL = ShapeForms.FULL;
    private static final int NONE = ShapeForms.NONE;
    private static final Check CHECK = new Check();

    public static void main(String[] args) {
        for (int op = 0; op < Asked.HAS.length; op++) {
            for (int part = 0; part < 3; part++) {
                edges(op, part);
            }
        }
        noSuchOp();
        full();
        cleared();
        CHECK.end();
    }

    private static void edges(int op, int part) {
        char kind = Asked.HAS[op].charAt(part);
        int[] far = {Integer.MIN_VALUE, NONE, -1, 60, 8, 2, Integer.MAX_VALUE};
        if (kind == '-') {
            for (int number : far) {
                one(op, part, number, true);
            }
            return;
        }
        one(op, part, 0, true);
        one(op, part, Asked.greatest(kind), true);
        one(op, part, Asked.greatest(kind) + 1, false);
        one(op, part, -1, false);
        one(op, part, NONE, false);
        one(op, part, Integer.MIN_VALUE, false);
        one(op, part, Integer.MAX_VALUE, false);
    }

    private static void one(int op, int part, int number, boolean fine) {
        ShapeForms x = new ShapeForms();
        x.op(10, 0, 0, 0);
        int[] abc = new int[3];
        abc[part] = number;
        String call = "op(" + op + ", " + abc[0] + ", " + abc[1] + ", " + abc[2] + ")";
        CHECK.due(call, x.op(op, abc[0], abc[1], abc[2]), fine ? 1 : BAD);
        CHECK.due(call + ", then count(1)", x.count(1), fine ? 2 : 1);
    }

    private static void noSuchOp() {
        ShapeForms x = new ShapeForms();
        for (int op : new int[] {-1, 11, NONE, Integer.MIN_VALUE, Integer.MAX_VALUE}) {
            CHECK.due("op(" + op + ", 0, 0, 0)", x.op(op, 0, 0, 0), BAD);
        }
        CHECK.due("count(1)", x.count(1), 0);
    }

    private static void full() {
        ShapeForms x = new ShapeForms();
        for (int i = 0; i < 60; i++) {
            CHECK.due("op(1, 0, 0, 0)", x.op(1, 0, 0, 0), i);
        }
        CHECK.due("op, the 61st", x.op(1, 0, 0, 0), FULL);
        CHECK.due("op that is BAD too", x.op(1, 8, 0, 0), BAD);
        CHECK.due("no such op, FULL too", x.op(11, 0, 0, 0), BAD);
        CHECK.due("count(1)", x.count(1), 60);
        CHECK.due("run()", x.run(), 0);
        CHECK.due("told(0)", x.told(0), 60);
        CHECK.due("told(1)", x.told(1), 59);
    }

    private static void cleared() {
        ShapeForms x = new ShapeForms();
        x.node(4);
        x.hold(3, 0);
        x.op(1, 3, 0, 0);
        x.op(1, 3, 0, 0);
        CHECK.due("clear()", x.clear(), 2);
        CHECK.due("count(1)", x.count(1), 0);
        CHECK.due("clear() again", x.clear(), 0);
        CHECK.due("run(), nothing to do", x.run(), 0);
        CHECK.due("held(3), the heap stays", x.held(3), 0);
        CHECK.due("count(0), the heap stays", x.count(0), 1);
        CHECK.due("op(10, 0, 0, 0), from 0 again", x.op(10, 0, 0, 0), 0);
    }
}
