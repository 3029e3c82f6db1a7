/** Promises 12 and 13: the forms of what a variable leads to, and its size. */
public final class FormTest {
    private static final int BAD = ShapeForms.BAD;
    private static final int NONE = ShapeForms.NONE;
    private static final Check CHECK = new Check();

    public static void main(String[] args) {
        wrongNumbers();
        nothing();
        lists();
        doubly();
        rings();
        trees();
        sorted();
        sizes();
        allNodes();
        asking();
        CHECK.end();
    }

    // Nodes with key, LINK 0, LINK 1; variable 0 holds node 0.
    private static ShapeForms heap(int[]... nodes) {
        ShapeForms x = new ShapeForms();
        for (int[] node : nodes) {
            x.node(node[0]);
        }
        for (int i = 0; i < nodes.length; i++) {
            x.link(i, 0, nodes[i][1]);
            x.link(i, 1, nodes[i][2]);
        }
        x.hold(0, 0);
        return x;
    }

    private static int[] n(int key, int zero, int one) {
        return new int[] {key, zero, one};
    }

    // The forms as one row of digits: NOTHING, LIST, DOUBLY, RING, TREE, SORTED, ANY.
    private static void forms(String name, ShapeForms x, String want) {
        for (int form = 0; form <= 6; form++) {
            CHECK.due(name + ": form(0, " + form + ")", x.form(0, form), want.charAt(form) - '0');
        }
    }

    private static void sizes(String name, ShapeForms x, int chain, int all) {
        CHECK.due(name + ": size(0, false)", x.size(0, false), chain);
        CHECK.due(name + ": size(0, true)", x.size(0, true), all);
    }

    private static void wrongNumbers() {
        ShapeForms x = heap(n(0, NONE, NONE));
        for (int w : new int[] {-1, 8, NONE, Integer.MIN_VALUE, Integer.MAX_VALUE}) {
            CHECK.due("form(" + w + ", 1)", x.form(w, 1), BAD);
            CHECK.due("size(" + w + ", false)", x.size(w, false), BAD);
            CHECK.due("size(" + w + ", true)", x.size(w, true), BAD);
        }
        for (int w : new int[] {-1, 7, NONE, Integer.MIN_VALUE, Integer.MAX_VALUE}) {
            CHECK.due("form(0, " + w + ")", x.form(0, w), BAD);
        }
        CHECK.due("form(7, 0)", x.form(7, 0), 1);
        CHECK.due("size(7, true)", x.size(7, true), 0);
    }

    private static void nothing() {
        ShapeForms x = new ShapeForms();
        forms("nothing", x, "1110111");
        sizes("nothing", x, 0, 0);
    }

    private static void lists() {
        ShapeForms one = heap(n(3, NONE, NONE));
        forms("one node", one, "0110111");
        sizes("one node", one, 1, 1);
        forms("two, rising", heap(n(1, 1, NONE), n(2, NONE, NONE)), "0100111");
        forms("list with other links", heap(n(1, 1, 1), n(2, NONE, 0)), "0100011");
        forms("into a ring of others", heap(n(0, 1, NONE), n(0, 2, NONE), n(0, 1, NONE)), "0000001");
        forms("into a ring of one", heap(n(0, 1, NONE), n(0, 1, NONE)), "0000001");
    }

    private static void doubly() {
        forms("doubly", heap(n(1, 1, NONE), n(1, 2, 0), n(0, NONE, 1)), "0110001");
        forms("doubly, sorted", heap(n(1, 1, NONE), n(1, 2, 0), n(1, NONE, 1)), "0110011");
        forms("first has a LINK 1", heap(n(1, 1, 1), n(1, NONE, 0)), "0100011");
        forms("first leads to itself", heap(n(1, NONE, 0)), "0100011");
        forms("LINK 1 to the first", heap(n(1, 1, NONE), n(1, 2, 0), n(1, NONE, 0)), "0100011");
        forms("LINK 1 to itself", heap(n(1, 1, NONE), n(1, NONE, 1)), "0100011");
        forms("last has none", heap(n(1, 1, NONE), n(1, 2, 0), n(1, NONE, NONE)), "0100011");
        ShapeForms x = heap(n(1, 1, NONE), n(1, 2, 0), n(0, NONE, 1));
        x.hold(0, 1);
        forms("doubly, from its second node", x, "0100001");
    }

    private static void rings() {
        forms("ring of one", heap(n(1, 0, NONE)), "0001001");
        forms("ring of two", heap(n(1, 1, NONE), n(1, 0, NONE)), "0001001");
        forms("ring of three with other links", heap(n(1, 1, 2), n(2, 2, 0), n(3, 0, 1)), "0001001");
        forms("ring by LINK 1 alone", heap(n(1, NONE, 0)), "0100011");
        forms("into a ring of others", heap(n(1, 1, NONE), n(1, 2, NONE), n(1, 1, NONE)), "0000001");
    }

    private static void trees() {
        forms("three", heap(n(0, 1, 2), n(0, NONE, NONE), n(0, NONE, NONE)), "0100111");
        forms("by LINK 1 alone", heap(n(0, NONE, 1), n(0, NONE, 2), n(0, NONE, NONE)), "0100111");
        forms("both LINKS to one", heap(n(0, 1, 1), n(0, NONE, NONE)), "0100011");
        forms("two ways", heap(n(0, 1, 2), n(0, 3, NONE), n(0, NONE, 3), n(0, NONE, NONE)), "0100011");
        forms("back to the first", heap(n(0, 1, 2), n(0, NONE, NONE), n(0, NONE, 0)), "0100011");
        forms("a ring below", heap(n(0, 1, NONE), n(0, NONE, 2), n(0, 1, NONE)), "0100011");
        ShapeForms x = heap(n(0, 1, NONE), n(0, NONE, 2), n(0, NONE, NONE), n(0, 2, 0));
        forms("links of nodes that are not come to", x, "0100111");
        x.hold(0, 3);
        forms("the same, come to", x, "0100011");
    }

    private static void sorted() {
        forms("equal keys", heap(n(1, 1, NONE), n(1, 2, NONE), n(1, NONE, NONE)), "0100111");
        forms("falls at last", heap(n(1, 1, NONE), n(2, 2, NONE), n(1, NONE, NONE)), "0100101");
        forms("far apart", heap(n(Integer.MIN_VALUE, 1, NONE), n(Integer.MAX_VALUE, NONE, NONE)), "0100111");
        forms("far apart, falling", heap(n(Integer.MAX_VALUE, 1, NONE), n(Integer.MIN_VALUE, NONE, NONE)),
            "0100101");
        forms("numbers of nodes are no keys", heap(n(0, 2, NONE), n(2, NONE, NONE), n(1, 1, NONE)), "0100111");
    }

    private static void sizes() {
        sizes("tree", heap(n(0, 1, 2), n(0, NONE, NONE), n(0, NONE, NONE)), 2, 3);
        sizes("by LINK 1 alone", heap(n(0, NONE, 1), n(0, NONE, NONE)), 1, 2);
        sizes("ring", heap(n(0, 1, NONE), n(0, 2, NONE), n(0, 0, 3), n(0, 3, 3)), 3, 4);
        sizes("some are not come to", heap(n(0, NONE, NONE), n(0, 0, 0)), 1, 1);
        int[][] nodes = new int[24][];
        for (int i = 0; i < 24; i++) {
            nodes[i] = n(0, 2 * i + 1 < 24 ? 2 * i + 1 : NONE, 2 * i + 2 < 24 ? 2 * i + 2 : NONE);
        }
        sizes("24 nodes, a tree", heap(nodes), 5, 24);
        forms("24 nodes, a tree", heap(nodes), "0100111");
    }

    private static void allNodes() {
        int[][] nodes = new int[24][];
        for (int i = 0; i < 24; i++) {
            nodes[i] = n(i, i + 1 < 24 ? i + 1 : NONE, i > 0 ? i - 1 : NONE);
        }
        ShapeForms x = heap(nodes);
        forms("24 nodes, doubly", x, "0110011");
        x.link(23, 0, 0);
        forms("24 nodes, a ring", x, "0001001");
        sizes("24 nodes, a ring", x, 24, 24);
        x.link(23, 0, 23);
        forms("24 nodes, the last one to itself", x, "0000001");
        sizes("24 nodes, the last one to itself", x, 24, 24);
    }

    private static void asking() {
        ShapeForms x = heap(n(5, 1, 1), n(4, 0, NONE));
        for (int form = 0; form <= 6; form++) {
            x.form(0, form);
            x.size(0, form > 3);
        }
        CHECK.due("asking changes nothing: held(0)", x.held(0), 0);
        CHECK.due("asking changes nothing: of(0, 0)", x.of(0, 0), 1);
        CHECK.due("asking changes nothing: of(1, 0)", x.of(1, 0), 0);
        CHECK.due("asking changes nothing: of(1, 2)", x.of(1, 2), 4);
        CHECK.due("asking changes nothing: count(0)", x.count(0), 2);
    }
}
