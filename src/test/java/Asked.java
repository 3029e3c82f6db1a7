/**
 * One new object, with the words of the document that it is asked about: each call carries the
 * answer that is due, so that an answer that is not is told with these words.
 */
final class Asked {
    static final int BAD = -1;
    static final int FULL = -3;
    static final int NONE = -99999999;

    // What a, b, c of each op are: v VARIABLE, f LINK, p place to go on, - what it has not or a KEY.
    static final String[] HAS = {
        "v--", "v--", "vv-", "vvf", "vfv", "vp-", "vvp", "vvp", "p--", "v--", "---"};

    private static final int VARIABLES = 8;
    // What later calls answer is free, so no test may count on it.
    private static final int CALLS = 512;

    private final Check check;
    private final String words;
    private final ShapeForms x = new ShapeForms();
    private int calls;

    Asked(Check check, String words) {
        this.check = check;
        this.words = words;
    }

    private void due(String call, int got, int want) {
        calls++;
        check.isTrue(words + ": has " + CALLS + " calls at most", calls <= CALLS);
        check.due(words + ": call " + calls + ", " + call, got, want);
    }

    int calls() {
        return calls;
    }

    static int greatest(char has) {
        return has == 'v' ? 7 : has == 'f' ? 1 : 59;
    }

    void op(int op, int a, int b, int c, int want) {
        due("op(" + op + ", " + a + ", " + b + ", " + c + ")", x.op(op, a, b, c), want);
    }

    void clear(int want) {
        due("clear()", x.clear(), want);
    }

    void empty(int want) {
        due("empty()", x.empty(), want);
    }

    void node(int key, int want) {
        due("node(" + key + ")", x.node(key), want);
    }

    void link(int node, int f, int to, int want) {
        due("link(" + node + ", " + f + ", " + to + ")", x.link(node, f, to), want);
    }

    void hold(int variable, int node, int want) {
        due("hold(" + variable + ", " + node + ")", x.hold(variable, node), want);
    }

    void run(int want) {
        due("run()", x.run(), want);
    }

    void told(int what, int want) {
        due("told(" + what + ")", x.told(what), want);
    }

    void held(int variable, int want) {
        due("held(" + variable + ")", x.held(variable), want);
    }

    void of(int node, int what, int want) {
        due("of(" + node + ", " + what + ")", x.of(node, what), want);
    }

    void form(int variable, int form, int want) {
        due("form(" + variable + ", " + form + ")", x.form(variable, form), want);
    }

    void size(int variable, boolean both, int want) {
        due("size(" + variable + ", " + both + ")", x.size(variable, both), want);
    }

    void claim(int start, int form, int n, int end, int aim, boolean keys, int want) {
        String call = "claim(" + start + ", " + form + ", " + n + ", " + end + ", " + aim + ", " + keys + ")";
        due(call, x.claim(start, form, n, end, aim, keys), want);
    }

    void why(int want) {
        due("why()", x.why(), want);
    }

    void count(int what, int want) {
        due("count(" + what + ")", x.count(what), want);
    }

    /** Instructions more, each {op, a, b, c}; the first of them has the number that is told. */
    void program(int first, int[]... instructions) {
        for (int i = 0; i < instructions.length; i++) {
            int[] part = instructions[i];
            op(part[0], part[1], part[2], part[3], first + i);
        }
    }

    static int[] i(int op, int a, int b, int c) {
        return new int[] {op, a, b, c};
    }

    /** A heap, of an empty one: nodes, each {key, LINK 0, LINK 1}; variable 0 holds the first. */
    void heap(int[]... nodes) {
        for (int i = 0; i < nodes.length; i++) {
            node(nodes[i][0], i);
        }
        for (int i = 0; i < nodes.length; i++) {
            link(i, 0, nodes[i][1], 0);
            link(i, 1, nodes[i][2], 0);
        }
        hold(0, nodes.length > 0 ? 0 : NONE, 0);
    }

    static int[] n(int key, int zero, int one) {
        return new int[] {key, zero, one};
    }

    /** So many nodes with rising keys, each one's LINK 0 the next; variable 0 holds the first. */
    void chain(int many) {
        int[][] nodes = new int[many][];
        for (int i = 0; i < many; i++) {
            nodes[i] = n(i, i + 1 < many ? i + 1 : NONE, NONE);
        }
        heap(nodes);
    }

    void runs(int outcome, int done, int last) {
        run(outcome);
        told(0, done);
        told(1, last);
    }

    /** A digit for each of NOTHING, LIST, DOUBLY, RING, TREE, SORTED, ANY. */
    void forms(int variable, String want) {
        for (int form = 0; form <= 6; form++) {
            form(variable, form, want.charAt(form) - '0');
        }
    }

    void sizes(int variable, int chain, int all) {
        size(variable, false, chain);
        size(variable, true, all);
    }

    /** The heap is so many nodes, each {key, LINK 0, LINK 1}; the variable holds the first. */
    void isStart(int variable, int[]... nodes) {
        count(0, nodes.length);
        for (int i = 0; i < nodes.length; i++) {
            of(i, 2, nodes[i][0]);
            of(i, 0, nodes[i][1]);
            of(i, 1, nodes[i][2]);
        }
        for (int v = 0; v < VARIABLES; v++) {
            held(v, v == variable && nodes.length > 0 ? 0 : NONE);
        }
    }
}
