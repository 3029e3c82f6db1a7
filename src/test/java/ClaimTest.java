/** Promises 14 and 15: claims, the starts that break them, and why. */
public final class ClaimTest {
    private static final int BAD = ShapeForms.BAD;
    private static final int NONE = ShapeForms.NONE;
    private static final Check CHECK = new Check();

    public static void main(String[] args) {
        wrongNumbers();
        manyStarts();
        heapStaysIfItHolds();
        heapIsTheStartIfNot();
        brokenRuns();
        brokenForms();
        brokenKeys();
        keysOfTrees();
        whyIsOfTheLatest();
        reversing();
        sorting();
        turningTrees();
        CHECK.end();
    }

    private static void claims(String name, ShapeForms x, int[] c, boolean keys, int want, int why) {
        CHECK.due(name + ": claim", x.claim(c[0], c[1], c[2], c[3], c[4], keys), want);
        CHECK.due(name + ": why()", x.why(), why);
    }

    private static int[] c(int start, int form, int n, int end, int aim) {
        return new int[] {start, form, n, end, aim};
    }

    // Rows of key, LINK 0, LINK 1; the variable holds node 0, all others nothing.
    private static void heapIs(String name, ShapeForms x, int variable, int[]... nodes) {
        CHECK.due(name + ": count(0)", x.count(0), nodes.length);
        for (int i = 0; i < nodes.length; i++) {
            CHECK.due(name + ": of(" + i + ", 2)", x.of(i, 2), nodes[i][0]);
            CHECK.due(name + ": of(" + i + ", 0)", x.of(i, 0), nodes[i][1]);
            CHECK.due(name + ": of(" + i + ", 1)", x.of(i, 1), nodes[i][2]);
        }
        for (int v = 0; v < 8; v++) {
            boolean holds = v == variable && nodes.length > 0;
            CHECK.due(name + ": held(" + v + ")", x.held(v), holds ? 0 : NONE);
        }
    }

    private static int[] n(int key, int zero, int one) {
        return new int[] {key, zero, one};
    }

    private static void wrongNumbers() {
        ShapeForms x = new ShapeForms();
        x.op(3, 0, 0, 0);
        claims("breaks", x, c(0, 1, 1, 0, 1), false, -10, 1);
        x.node(5);
        x.hold(2, 0);
        for (int w : new int[] {-1, 8, NONE, Integer.MIN_VALUE, Integer.MAX_VALUE}) {
            claims("start " + w, x, c(w, 1, 1, 0, 1), true, BAD, 1);
            claims("form " + w, x, c(0, w, 1, 0, 1), true, BAD, 1);
            claims("size " + w, x, c(0, 1, w, 0, 1), true, BAD, 1);
            claims("end " + w, x, c(0, 1, 1, w, 1), true, BAD, 1);
            claims("aim " + w, x, c(0, 1, 1, 0, w), true, BAD, 1);
        }
        claims("form 0", x, c(0, 0, 1, 0, 1), true, BAD, 1);
        claims("form 6", x, c(0, 6, 1, 0, 1), true, BAD, 1);
        claims("size 6", x, c(0, 1, 6, 0, 1), true, BAD, 1);
        claims("aim 7", x, c(0, 1, 1, 0, 7), true, BAD, 1);
        CHECK.due("wrong calls change nothing: count(0)", x.count(0), 1);
        CHECK.due("wrong calls change nothing: held(2)", x.held(2), 0);
        CHECK.due("wrong calls change nothing: told(0)", x.told(0), 1);
    }

    private static void manyStarts() {
        ShapeForms x = new ShapeForms();
        int[][] many = {
            {}, {1, 4, 13, 40, 121, 364}, {1, 4, 13, 40, 121, 364}, {0, 3, 12, 39, 120, 363},
            {1, 2, 4, 9, 23, 65}, {1, 4, 10, 20, 35, 56}};
        for (int form = 1; form <= 5; form++) {
            for (int n = 0; n <= 5; n++) {
                for (int v = 0; v < 8; v += 7) {
                    claims("form " + form + " to " + n, x, c(v, form, n, v, form), true, many[form][n], 0);
                    claims("form " + form + ", ANY", x, c(v, form, n, 3, 6), false, many[form][n], 0);
                }
            }
        }
    }

    private static void heapStaysIfItHolds() {
        ShapeForms x = new ShapeForms();
        x.op(0, 0, 9, 0);
        x.node(5);
        x.node(6);
        x.link(0, 1, 1);
        x.hold(3, 1);
        claims("holds", x, c(0, 1, 2, 0, 1), false, 13, 0);
        CHECK.due("count(0)", x.count(0), 2);
        CHECK.due("of(0, 1)", x.of(0, 1), 1);
        CHECK.due("of(0, 0)", x.of(0, 0), NONE);
        CHECK.due("of(1, 2)", x.of(1, 2), 6);
        CHECK.due("held(3)", x.held(3), 1);
        CHECK.due("held(0)", x.held(0), NONE);
        CHECK.due("count(1)", x.count(1), 1);
    }

    private static void heapIsTheStartIfNot() {
        ShapeForms x = new ShapeForms();
        for (int i = 0; i < 24; i++) {
            x.node(7);
            x.link(i, 1, i);
        }
        x.hold(5, 20);
        x.op(0, 4, 9, 0);
        x.op(9, 2, 8, 0);
        x.op(4, 2, 1, 4);
        x.op(3, 2, 2, 0);
        x.op(1, 4, 0, 0);
        x.op(3, 2, 2, 0);
        claims("breaks at nothing", x, c(2, 1, 5, 2, 6), false, -10, 1);
        heapIs("start 0", x, 2);
        claims("breaks at one", x, c(2, 3, 5, 2, 1), false, -10, 4);
        heapIs("the ring, as it was found", x, 2, n(0, 0, NONE));
        CHECK.due("told(0), of the start that broke it", x.told(0), 6);
        CHECK.due("node(1), behind the start's", x.node(1), 1);
        CHECK.due("of(1, 1)", x.of(1, 1), NONE);
    }

    private static void brokenRuns() {
        ShapeForms x = new ShapeForms();
        x.op(3, 0, 0, 0);
        claims("NULL", x, c(0, 1, 5, 0, 6), true, -10, 1);
        claims("NULL, of another variable", x, c(1, 3, 5, 0, 6), true, -10, 1);
        x.clear();
        x.op(5, 0, 59, 0);
        x.op(3, 0, 0, 0);
        x.op(8, 0, 0, 0);
        claims("over lists", x, c(0, 1, 5, 0, 0), false, 364, 0);
        claims("SPENT, over rings", x, c(0, 3, 5, 0, 6), false, -10, 2);
        CHECK.due("SPENT: told(0)", x.told(0), 500);
        CHECK.due("SPENT: told(1)", x.told(1), 1);
        x.clear();
        for (int i = 0; i < 20; i++) {
            x.op(0, 7, 3, 0);
        }
        claims("room for 4", x, c(0, 1, 4, 0, 1), true, 121, 0);
        claims("ROOM, with 5", x, c(0, 1, 5, 0, 1), true, -10 - 121, 3);
        CHECK.due("ROOM: told(0)", x.told(0), 20);
        heapIs("ROOM", x, 0, n(0, 1, NONE), n(0, 2, NONE), n(0, 3, NONE), n(0, 4, NONE), n(0, NONE, NONE));
    }

    private static void brokenForms() {
        ShapeForms x = new ShapeForms();
        claims("NOTHING", x, c(0, 1, 5, 1, 0), false, 364, 0);
        claims("NOTHING, of a start", x, c(0, 1, 5, 0, 0), false, -11, 4);
        heapIs("NOTHING, of a start", x, 0, n(0, NONE, NONE));
        claims("LIST, of rings", x, c(0, 3, 5, 0, 1), false, -10, 4);
        claims("LIST, of trees", x, c(0, 4, 5, 0, 1), false, 65, 0);
        claims("DOUBLY, of lists", x, c(0, 1, 5, 0, 2), false, -14, 4);
        claims("RING, of lists", x, c(0, 1, 5, 0, 3), false, -10, 4);
        claims("TREE, of lists", x, c(0, 1, 5, 0, 4), true, 364, 0);
        claims("TREE, of doubly ones", x, c(0, 2, 5, 0, 4), true, -14, 4);
        claims("SORTED, of lists", x, c(0, 1, 5, 0, 5), true, -10 - (1 + 3 + 3), 4);
        heapIs("SORTED, of lists", x, 0, n(1, 1, NONE), n(0, NONE, NONE));
        claims("ANY, of rings", x, c(0, 3, 5, 0, 6), true, 363, 0);
        claims("TREE, of rings", x, c(0, 3, 1, 0, 4), true, -10, 4);
    }

    private static void brokenKeys() {
        ShapeForms x = new ShapeForms();
        claims("another variable", x, c(0, 1, 5, 1, 1), true, -11, 5);
        claims("another variable, not asked", x, c(0, 1, 5, 1, 1), false, 364, 0);
        x.op(5, 0, 59, 0);
        x.op(9, 0, 1, 0);
        claims("a key is changed", x, c(0, 1, 5, 0, 1), true, -11, 5);
        claims("a key is changed, not asked", x, c(0, 1, 5, 0, 1), false, 364, 0);
        x.clear();
        x.op(0, 1, 0, 0);
        x.op(4, 1, 0, 0);
        claims("a node more", x, c(0, 1, 5, 1, 1), true, -10, 5);
        heapIs("a node more", x, 0);
        x.clear();
        x.op(5, 0, 59, 0);
        x.op(3, 0, 0, 0);
        claims("a node less", x, c(0, 1, 5, 0, 1), true, -11, 5);
        x.clear();
        swapKeys(x);
        claims("as many of each key", x, c(0, 1, 2, 0, 1), true, -10 - (1 + 3 + 2), 5);
        heapIs("as many of each key", x, 0, n(0, 1, NONE), n(2, NONE, NONE));
        x.clear();
        x.op(5, 0, 59, 0);
        x.op(3, 1, 0, 0);
        x.op(4, 1, 0, 1);
        claims("each node once", x, c(0, 3, 1, 0, 6), true, 3, 0);
        claims("each node once, rings of two", x, c(0, 3, 2, 0, 6), true, 12, 0);
    }

    // Of two nodes whose keys rise the keys become 1, 0: as many of each only where they were 0, 1.
    private static void swapKeys(ShapeForms x) {
        x.op(5, 0, 59, 0);
        x.op(3, 1, 0, 0);
        x.op(5, 1, 59, 0);
        x.op(7, 0, 1, 5);
        x.op(10, 0, 0, 0);
        x.op(9, 0, 1, 0);
        x.op(9, 1, 0, 0);
    }

    private static void keysOfTrees() {
        ShapeForms x = new ShapeForms();
        claims("TREE, by both LINKS", x, c(0, 4, 5, 0, 4), true, 65, 0);
        claims("LIST, by LINK 0 alone", x, c(0, 4, 5, 0, 1), true, -12, 5);
        claims("ANY, by LINK 0 alone", x, c(0, 4, 5, 0, 6), true, -12, 5);
        claims("ANY, not asked", x, c(0, 4, 5, 0, 6), false, 65, 0);
        claims("SORTED, by LINK 0 alone", x, c(0, 4, 5, 0, 5), true, -12, 5);
    }

    private static void whyIsOfTheLatest() {
        ShapeForms x = new ShapeForms();
        CHECK.due("why(), none was made", x.why(), 0);
        claims("breaks", x, c(0, 1, 1, 0, 3), true, -10, 4);
        x.clear();
        x.empty();
        x.run();
        CHECK.due("why(), no claim since", x.why(), 4);
        claims("breaks otherwise", x, c(0, 1, 1, 1, 1), true, -11, 5);
        claims("no starts", x, c(0, 3, 0, 0, 0), true, 0, 0);
    }

    private static void reversing() {
        ShapeForms x = new ShapeForms();
        x.op(1, 1, 0, 0);
        x.op(5, 6, 7, 0);
        x.op(3, 2, 6, 0);
        x.op(4, 6, 0, 1);
        x.op(2, 1, 6, 0);
        x.op(2, 6, 2, 0);
        x.op(8, 1, 0, 0);
        claims("lists", x, c(6, 1, 5, 1, 1), true, 364, 0);
        claims("lists, to sorted", x, c(6, 5, 5, 1, 5), true, -15, 4);
        claims("rings", x, c(6, 3, 5, 1, 3), true, 363, 0);
        CHECK.due("told(0), of a ring of 5", x.told(0), 1 + 6 * 6 + 1);
    }

    // Each node goes from list 0 into list 1, behind all that are less.
    private static void sorting() {
        ShapeForms x = new ShapeForms();
        x.op(5, 0, 59, 0);
        x.op(2, 2, 0, 0);
        x.op(3, 0, 0, 0);
        x.op(5, 1, 5, 0);
        x.op(7, 1, 2, 8);
        x.op(4, 2, 0, 1);
        x.op(2, 1, 2, 0);
        x.op(8, 0, 0, 0);
        x.op(2, 3, 1, 0);
        x.op(3, 4, 3, 0);
        x.op(5, 4, 14, 0);
        x.op(7, 4, 2, 13);
        x.op(8, 14, 0, 0);
        x.op(8, 17, 0, 0);
        x.op(4, 2, 0, 4);
        x.op(4, 3, 0, 2);
        x.op(8, 0, 0, 0);
        x.op(2, 3, 4, 0);
        x.op(8, 9, 0, 0);
        claims("lists", x, c(0, 1, 5, 1, 5), true, 364, 0);
        claims("doubly ones", x, c(0, 2, 5, 1, 5), true, 364, 0);
        claims("not doubly", x, c(0, 1, 5, 1, 2), true, -14, 4);
    }

    private static void turningTrees() {
        ShapeForms x = new ShapeForms();
        x.op(5, 3, 59, 0);
        x.op(3, 1, 3, 0);
        x.op(3, 2, 3, 1);
        x.op(4, 3, 0, 2);
        x.op(4, 3, 1, 1);
        claims("turned at the top", x, c(3, 4, 5, 3, 4), true, 65, 0);
        x.op(4, 3, 0, 1);
        claims("one side lost", x, c(3, 4, 5, 3, 4), true, -12, 5);
        heapIs("one side lost", x, 3, n(0, NONE, 1), n(0, NONE, NONE));
        claims("both LINKS to one", x, c(3, 4, 5, 3, 4), false, -13, 4);
        heapIs("both LINKS to one", x, 3, n(0, 1, NONE), n(0, NONE, NONE));
    }
}
