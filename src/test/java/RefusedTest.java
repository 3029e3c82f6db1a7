import java.util.ArrayList;
import java.util.List;
import java.util.function.ToIntFunction;

/**
 * BAD and FULL change nothing (Terms): each refused call is made on an object that has a twin,
 * which had all calls but this one; both must look and go on alike.
 */
public final class RefusedTest {
    private static final int BAD = ShapeForms.BAD;
    private static final int FULL = ShapeForms.FULL;
    private static final int NONE = ShapeForms.NONE;
    private static final int[] FAR = {Integer.MIN_VALUE, NONE - 1, NONE + 1, FULL, -2, -1, Integer.MAX_VALUE};
    private static final Check CHECK = new Check();

    private enum State {
        NEW, USED, ALL_TAKEN
    }

    private record Refused(String name, ToIntFunction<ShapeForms> call, int answer) {
    }

    public static void main(String[] args) {
        for (State state : State.values()) {
            for (Refused refused : allRefused(state)) {
                changesNothing(state, refused);
            }
        }
        CHECK.end();
    }

    private static ShapeForms make(State state) {
        ShapeForms x = new ShapeForms();
        if (state == State.USED) {
            use(x);
        } else if (state == State.ALL_TAKEN) {
            takeAll(x);
        }
        return x;
    }

    // Leaves three nodes, something to be told of a run, and a claim that broke.
    private static void use(ShapeForms x) {
        x.op(0, 1, 7, 0);
        x.op(5, 0, 4, 0);
        x.op(4, 1, 0, 0);
        x.op(9, 1, 5, 0);
        x.claim(0, 1, 1, 1, 5, true);
        x.node(4);
        x.node(-2);
        x.link(0, 0, 1);
        x.link(1, 1, 2);
        x.hold(0, 0);
        x.hold(3, 1);
        x.hold(7, 2);
        x.run();
        x.empty();
        x.node(1);
        x.node(2);
        x.node(3);
        x.link(0, 0, 2);
        x.link(2, 1, 1);
        x.hold(0, 0);
        x.hold(7, 1);
    }

    // Leaves 24 nodes in a ring, no variable free, and 60 instructions, the last of which fails.
    private static void takeAll(ShapeForms x) {
        for (int i = 0; i < 59; i++) {
            x.op(i % 2 == 0 ? 3 : 9, i % 8, i % 2 == 0 ? i * 3 % 8 : i, i / 2 % 2);
        }
        x.op(0, 0, 5, 0);
        x.claim(0, 3, 1, 0, 6, false);
        x.empty();
        for (int i = 0; i < 24; i++) {
            x.node(i * 7 % 24);
        }
        for (int i = 0; i < 24; i++) {
            x.link(i, 0, (i + 1) % 24);
            x.link(i, 1, (i + 5) % 24);
        }
        for (int v = 0; v < 8; v++) {
            x.hold(v, 3 * v);
        }
        x.run();
    }

    private static List<Refused> allRefused(State state) {
        int nodes = make(state).count(0);
        List<Refused> all = new ArrayList<>();
        for (int w : FAR) {
            wrongVariable(all, w);
            wrongNode(all, w);
            wrongLink(all, w);
            wrongWhat(all, w);
            wrongForm(all, w);
        }
        for (int w = 8; w < 10; w++) {
            wrongVariable(all, w);
        }
        for (int w = nodes; w < nodes + 2; w++) {
            wrongNode(all, w);
        }
        for (int w = 2; w < 4; w++) {
            wrongLink(all, w);
            wrongWhat(all, w);
        }
        for (int w = 7; w < 9; w++) {
            wrongForm(all, w);
        }
        wrongVariable(all, NONE);
        wrongLink(all, NONE);
        wrongWhat(all, NONE);
        wrongForm(all, NONE);
        wrongStarts(all);
        wrongOps(all);
        if (state == State.ALL_TAKEN) {
            full(all);
        }
        return all;
    }

    private static void bad(List<Refused> all, String name, ToIntFunction<ShapeForms> call) {
        all.add(new Refused(name, call, BAD));
    }

    private static void wrongVariable(List<Refused> all, int w) {
        bad(all, "hold(" + w + ", NONE)", x -> x.hold(w, NONE));
        bad(all, "held(" + w + ")", x -> x.held(w));
        bad(all, "form(" + w + ", 6)", x -> x.form(w, 6));
        bad(all, "size(" + w + ", false)", x -> x.size(w, false));
        bad(all, "size(" + w + ", true)", x -> x.size(w, true));
        bad(all, "claim, start " + w, x -> x.claim(w, 1, 2, 0, 0, true));
        bad(all, "claim, end " + w, x -> x.claim(0, 1, 2, w, 0, true));
    }

    private static void wrongNode(List<Refused> all, int w) {
        bad(all, "link(" + w + ", 0, NONE)", x -> x.link(w, 0, NONE));
        bad(all, "link(0, 1, " + w + ")", x -> x.link(0, 1, w));
        bad(all, "hold(0, " + w + ")", x -> x.hold(0, w));
        for (int what = 0; what < 3; what++) {
            int asked = what;
            bad(all, "of(" + w + ", " + what + ")", x -> x.of(w, asked));
        }
    }

    private static void wrongLink(List<Refused> all, int w) {
        bad(all, "link(0, " + w + ", NONE)", x -> x.link(0, w, NONE));
        bad(all, "link(0, " + w + ", 0)", x -> x.link(0, w, 0));
    }

    private static void wrongWhat(List<Refused> all, int w) {
        bad(all, "told(" + w + ")", x -> x.told(w));
        bad(all, "count(" + w + ")", x -> x.count(w));
        if (w != 2) {
            bad(all, "of(0, " + w + ")", x -> x.of(0, w));
        }
    }

    private static void wrongForm(List<Refused> all, int w) {
        bad(all, "form(0, " + w + ")", x -> x.form(0, w));
        bad(all, "claim, form " + w, x -> x.claim(0, w, 2, 0, 0, true));
        bad(all, "claim, aim " + w, x -> x.claim(0, 1, 2, 0, w, true));
        bad(all, "claim, n " + w, x -> x.claim(0, 1, w, 0, 0, true));
    }

    private static void wrongStarts(List<Refused> all) {
        bad(all, "claim, form 0", x -> x.claim(0, 0, 2, 0, 0, true));
        bad(all, "claim, form 6", x -> x.claim(0, 6, 2, 0, 0, true));
        bad(all, "claim, n 6", x -> x.claim(0, 1, 6, 0, 0, true));
        bad(all, "claim, n 6 of rings", x -> x.claim(0, 3, 6, 0, 0, true));
        bad(all, "claim, n -1 of rings", x -> x.claim(0, 3, -1, 0, 0, true));
    }

    private static void wrongOps(List<Refused> all) {
        for (int op : new int[] {Integer.MIN_VALUE, NONE, -1, 11, 12, Integer.MAX_VALUE}) {
            bad(all, "op(" + op + ", 0, 0, 0)", x -> x.op(op, 0, 0, 0));
        }
        for (int op = 0; op < Asked.HAS.length; op++) {
            for (int part = 0; part < 3; part++) {
                wrongParts(all, op, part, Asked.HAS[op].charAt(part));
            }
        }
    }

    private static void wrongParts(List<Refused> all, int op, int part, char has) {
        if (has == '-') {
            return;
        }
        for (int w : new int[] {Integer.MIN_VALUE, NONE, -1, Asked.greatest(has) + 1, Integer.MAX_VALUE}) {
            wrongPart(all, op, part, w);
        }
    }

    private static void wrongPart(List<Refused> all, int op, int part, int w) {
        int a = part == 0 ? w : 0;
        int b = part == 1 ? w : 0;
        int c = part == 2 ? w : 0;
        bad(all, "op(" + op + ", " + a + ", " + b + ", " + c + ")", x -> x.op(op, a, b, c));
    }

    private static void full(List<Refused> all) {
        all.add(new Refused("node(5)", x -> x.node(5), FULL));
        for (int number = 0; number < Asked.HAS.length; number++) {
            int op = number;
            all.add(new Refused("op(" + op + ", 1, 1, 1)", x -> x.op(op, 1, 1, 1), FULL));
        }
    }

    private static void changesNothing(State state, Refused refused) {
        String name = state + ", " + refused.name();
        ShapeForms x = make(state);
        ShapeForms twin = make(state);
        CHECK.due(name, refused.call().applyAsInt(x), refused.answer());
        alike(name, x, twin);
        CHECK.due(name + ", then run()", x.run(), twin.run());
        alike(name + ", then run()", x, twin);
        CHECK.due(name + ", then claim", x.claim(0, 3, 2, 1, 1, true), twin.claim(0, 3, 2, 1, 1, true));
        alike(name + ", then claim", x, twin);
    }

    private static void alike(String name, ShapeForms x, ShapeForms twin) {
        String due = picture(twin);
        String got = picture(x);
        CHECK.isTrue(name + ": looks as its twin, " + due + ", and not " + got, got.equals(due));
    }

    private static String picture(ShapeForms x) {
        StringBuilder text = new StringBuilder("told " + x.told(0) + " " + x.told(1) + ", why " + x.why());
        text.append(", instructions " + x.count(1) + ", held");
        for (int v = 0; v < 8; v++) {
            text.append(" " + x.held(v));
        }
        int nodes = x.count(0);
        for (int node = 0; node < nodes; node++) {
            text.append(", " + node + ": " + x.of(node, 0) + " " + x.of(node, 1) + " " + x.of(node, 2));
        }
        return text.toString();
    }
}
