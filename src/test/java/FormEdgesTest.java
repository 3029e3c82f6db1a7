/**
 * The boundary cases of forms and sizes: Terms, 2, and promises 12 and 13. Each method is about
 * one sentence, whose words it gives to the object that it asks.
 */
public final class FormEdgesTest {
    private static final int BAD = Asked.BAD;
    private static final int NONE = Asked.NONE;
    private static final int LEAST = Integer.MIN_VALUE;
    private static final int MOST = Integer.MAX_VALUE;
    private static final Check CHECK = new Check();

    public static void main(String[] args) {
        noSuchVariable();
        noSuchForm();
        eachVariableForItself();
        nothing();
        listEnds();
        listOfAllNodes();
        listGoesAroundBehindItsFirst();
        doublyFirst();
        doublyOthers();
        doublyIsAList();
        ringOfOne();
        ringOfTwo();
        ringOfAllNodes();
        ringComesToItsFirst();
        treeOfOne();
        treeOfTwoWays();
        treeComesToItsFirst();
        treeOfThoseComeTo();
        treeGoesAround();
        treeOfAllNodes();
        sortedKeysMayBeEqual();
        sortedKeysFarApart();
        sortedFallsAtItsEnds();
        sortedIsAList();
        any();
        sizeOfNothing();
        sizeByOneLinkOrBoth();
        sizeCountsEachOnce();
        sizeOfAllNodes();
        askingChangesNothing();
        CHECK.end();
    }

    private static Asked ask(String words, int[]... nodes) {
        Asked x = new Asked(CHECK, words);
        x.heap(nodes);
        return x;
    }

    private static int[] n(int key, int zero, int one) {
        return Asked.n(key, zero, one);
    }

    private static void has(String words, String forms, int[]... nodes) {
        ask(words, nodes).forms(0, forms);
    }

    private static void noSuchVariable() {
        Asked x = ask("form, size: BAD: none such, the VARIABLE", n(0, NONE, NONE));
        for (int v : new int[] {LEAST, NONE, -2, -1, 8, 9, MOST}) {
            for (int form = 0; form <= 6; form++) {
                x.form(v, form, BAD);
            }
            x.sizes(v, BAD, BAD);
        }
        x.form(0, 0, 0);
        x.form(7, 0, 1);
        x.sizes(0, 1, 1);
        x.sizes(7, 0, 0);
    }

    private static void noSuchForm() {
        Asked x = ask("form: BAD: none such, the FORM", n(0, NONE, NONE));
        for (int form : new int[] {LEAST, NONE, -3, -2, -1, 7, 8, MOST}) {
            x.form(0, form, BAD);
            x.form(7, form, BAD);
            x.form(8, form, BAD);
        }
        x.form(0, 0, 0);
        x.form(0, 6, 1);
    }

    private static void eachVariableForItself() {
        Asked x = ask("Whether a VARIABLE has a FORM", n(0, 0, NONE), n(0, NONE, NONE));
        x.hold(7, 1, 0);
        x.forms(0, "0001001");
        x.forms(7, "0110111");
        for (int v = 1; v < 7; v++) {
            x.forms(v, "1110111");
        }
    }

    private static void nothing() {
        Asked x = new Asked(CHECK, "a VARIABLE that holds nothing");
        x.forms(0, "1110111");
        x.forms(7, "1110111");
        x.node(5, 0);
        x.link(0, 0, 0, 0);
        x.forms(7, "1110111");
        x.hold(7, 0, 0);
        x.forms(7, "0001001");
        x.hold(7, NONE, 0);
        x.forms(7, "1110111");
    }

    private static void listEnds() {
        has("LIST: there is an end, one NODE", "0110111", n(5, NONE, NONE));
        has("LIST: there is an end, two NODES", "0100111", n(5, 1, NONE), n(5, NONE, NONE));
        has("LIST: by LINK 0, whatever LINK 1 is", "0100011", n(5, 1, 0), n(5, NONE, 1));
    }

    private static void listOfAllNodes() {
        Asked x = new Asked(CHECK, "LIST of 24 NODES");
        x.chain(24);
        x.forms(0, "0100111");
        x.hold(0, 23, 0);
        x.forms(0, "0110111");
    }

    private static void listGoesAroundBehindItsFirst() {
        has("LIST, RING: to itself behind the first", "0000001", n(5, 1, NONE), n(5, 1, NONE));
        has("LIST, RING: around behind the first", "0000001", n(5, 1, NONE), n(5, 2, NONE), n(5, 1, NONE));
        Asked x = new Asked(CHECK, "LIST, RING: around behind the first of 24");
        x.chain(24);
        for (int to = 1; to < 24; to += 11) {
            x.link(23, 0, to, 0);
            x.forms(0, "0000001");
        }
        x.link(23, 0, 23, 0);
        x.forms(0, "0000001");
        x.link(23, 0, NONE, 0);
        x.forms(0, "0100111");
    }

    private static void doublyFirst() {
        has("DOUBLY: LINK 1 of its first NODE is nothing", "0110111", n(5, NONE, NONE));
        has("DOUBLY: LINK 1 of its first NODE is itself", "0100011", n(5, NONE, 0));
        has("DOUBLY: LINK 1 of its first NODE is its last", "0100011", n(5, 1, 1), n(5, NONE, 0));
        has("DOUBLY: LINK 1 of its first NODE is another", "0100111", n(5, NONE, 1), n(5, NONE, NONE));
    }

    private static void doublyOthers() {
        has("DOUBLY: of each other one the NODE ahead of it", "0110011", n(5, 1, NONE), n(5, 2, 0), n(5, NONE, 1));
        has("DOUBLY: nothing, at the last", "0100011", n(5, 1, NONE), n(5, 2, 0), n(5, NONE, NONE));
        has("DOUBLY: nothing, in the middle", "0100011", n(5, 1, NONE), n(5, 2, NONE), n(5, NONE, 1));
        has("DOUBLY: two ahead", "0100011", n(5, 1, NONE), n(5, 2, 0), n(5, NONE, 0));
        has("DOUBLY: the NODE behind it", "0100011", n(5, 1, NONE), n(5, 2, 2), n(5, NONE, 1));
        has("DOUBLY: itself", "0100011", n(5, 1, NONE), n(5, 2, 0), n(5, NONE, 2));
        Asked x = new Asked(CHECK, "DOUBLY of 24 NODES");
        x.chain(24);
        for (int i = 1; i < 24; i++) {
            x.form(0, 2, 0);
            x.link(i, 1, i - 1, 0);
        }
        x.forms(0, "0110011");
        x.hold(0, 1, 0);
        x.forms(0, "0100011");
    }

    private static void doublyIsAList() {
        has("DOUBLY: a LIST, a ring with LINK 1 ahead", "0001001", n(5, 1, NONE), n(5, 0, 0));
        has("DOUBLY: a LIST, around behind the first", "0000001", n(5, 1, NONE), n(5, 1, 0));
    }

    private static void ringOfOne() {
        has("RING: of one NODE", "0001001", n(5, 0, NONE));
        has("RING: by LINK 0, not by LINK 1", "0100011", n(5, NONE, 0));
        has("RING: of one NODE by both LINKS", "0001001", n(5, 0, 0));
    }

    private static void ringOfTwo() {
        has("RING: of two NODES", "0001001", n(5, 1, NONE), n(5, 0, NONE));
        has("RING: back by LINK 1", "0110011", n(5, 1, NONE), n(5, NONE, 0));
    }

    private static void ringOfAllNodes() {
        Asked x = new Asked(CHECK, "RING of 24 NODES");
        x.chain(24);
        x.link(23, 0, 0, 0);
        x.forms(0, "0001001");
        x.hold(0, 23, 0);
        x.forms(0, "0001001");
        x.hold(0, 12, 0);
        x.forms(0, "0001001");
        x.sizes(0, 24, 24);
    }

    private static void ringComesToItsFirst() {
        Asked x = ask("RING: that is come to again", n(5, 1, NONE), n(5, 2, NONE), n(5, 1, NONE));
        x.form(0, 3, 0);
        x.hold(0, 1, 0);
        x.form(0, 3, 1);
        x.hold(0, 2, 0);
        x.form(0, 3, 1);
        x.hold(0, NONE, 0);
        x.form(0, 3, 0);
    }

    private static void treeOfOne() {
        has("TREE: of one NODE", "0110111", n(5, NONE, NONE));
        has("TREE: the first one by none, LINK 0 to itself", "0001001", n(5, 0, NONE));
        has("TREE: the first one by none, LINK 1 to itself", "0100011", n(5, NONE, 0));
    }

    private static void treeOfTwoWays() {
        has("TREE: come to by both LINKS of one", "0100011", n(5, 1, 1), n(5, NONE, NONE));
        has("TREE: come to by LINKS of two", "0100011",
            n(5, 1, 2), n(5, 3, NONE), n(5, 3, NONE), n(5, NONE, NONE));
        has("TREE: come to by a LINK of the first and of another", "0100011", n(5, 1, 2), n(5, 2, NONE),
            n(5, NONE, NONE));
        has("TREE: each come to by one", "0100111", n(5, 1, 2), n(5, 3, NONE), n(5, NONE, 4),
            n(5, NONE, NONE), n(5, NONE, NONE));
    }

    private static void treeComesToItsFirst() {
        has("TREE: the first one by none, not from its end", "0100011", n(5, 1, NONE), n(5, NONE, 2), n(5, NONE, 0));
        has("TREE: the first one by none, not from its second", "0001001", n(5, 1, NONE), n(5, 0, NONE));
    }

    private static void treeOfThoseComeTo() {
        Asked x = ask("TREE: by LINKS of these alone", n(5, 2, NONE), n(5, 0, 2), n(5, NONE, NONE), n(5, 3, 2));
        x.form(0, 4, 1);
        x.hold(0, 1, 0);
        x.form(0, 4, 0);
        x.hold(0, 2, 0);
        x.form(0, 4, 1);
        x.hold(0, 3, 0);
        x.form(0, 4, 0);
    }

    private static void treeGoesAround() {
        has("TREE: to itself behind the first", "0000001", n(5, 1, NONE), n(5, 1, NONE));
        has("TREE: around below LINK 1", "0100011", n(5, NONE, 1), n(5, NONE, 2), n(5, NONE, 1));
        has("TREE: two that go around, not come to", "0110111", n(5, NONE, NONE), n(5, 2, NONE), n(5, 1, NONE));
    }

    private static void treeOfAllNodes() {
        int[][] nodes = new int[24][];
        for (int i = 0; i < 24; i++) {
            nodes[i] = n(0, 2 * i + 1 < 24 ? 2 * i + 1 : NONE, 2 * i + 2 < 24 ? 2 * i + 2 : NONE);
        }
        Asked x = ask("TREE of 24 NODES", nodes);
        x.forms(0, "0100111");
        x.sizes(0, 5, 24);
        for (int to : new int[] {0, 1, 22, 23}) {
            x.link(23, 1, to, 0);
            x.form(0, 4, 0);
            x.sizes(0, 5, 24);
        }
        x.link(23, 1, NONE, 0);
        x.form(0, 4, 1);
    }

    private static void sortedKeysMayBeEqual() {
        has("SORTED: KEYS do not fall, all equal", "0100111", n(5, 1, NONE), n(5, 2, NONE), n(5, NONE, NONE));
        has("SORTED: KEYS do not fall, by one", "0100101", n(5, 1, NONE), n(4, NONE, NONE));
        has("SORTED: KEYS do not fall, rise by one", "0100111", n(5, 1, NONE), n(6, NONE, NONE));
    }

    private static void sortedKeysFarApart() {
        has("SORTED: least, then most", "0100111", n(LEAST, 1, NONE), n(MOST, NONE, NONE));
        has("SORTED: most, then least", "0100101", n(MOST, 1, NONE), n(LEAST, NONE, NONE));
        has("SORTED: least, then 0", "0100111", n(LEAST, 1, NONE), n(0, NONE, NONE));
        has("SORTED: 0, then least", "0100101", n(0, 1, NONE), n(LEAST, NONE, NONE));
        has("SORTED: -1, then most", "0100111", n(-1, 1, NONE), n(MOST, NONE, NONE));
    }

    private static void sortedFallsAtItsEnds() {
        Asked x = new Asked(CHECK, "SORTED of 24 NODES");
        x.chain(24);
        x.form(0, 5, 1);
        x.program(0, Asked.i(9, 1, 24, 0), Asked.i(9, 2, -1, 0));
        x.hold(1, 0, 0);
        x.hold(2, 0, 0);
        x.run(0);
        x.form(0, 5, 1);
        x.hold(1, 0, 0);
        x.hold(2, 23, 0);
        x.run(0);
        x.form(0, 5, 0);
        has("SORTED: falls at the last", "0100101", n(1, 1, NONE), n(2, 2, NONE), n(1, NONE, NONE));
        has("SORTED: falls at the second", "0100101", n(1, 1, NONE), n(0, 2, NONE), n(1, NONE, NONE));
    }

    private static void sortedIsAList() {
        has("SORTED: a LIST, no ring of one", "0001001", n(5, 0, NONE));
        has("SORTED: a LIST, not around behind the first", "0000001", n(5, 1, NONE), n(5, 1, NONE));
        has("SORTED: KEYS by LINK 0 alone", "0100111", n(5, NONE, 1), n(4, NONE, NONE));
    }

    private static void any() {
        Asked x = ask("ANY", n(5, 1, 1), n(4, 1, 0));
        x.forms(0, "0000001");
        x.form(1, 6, 1);
    }

    private static void sizeOfNothing() {
        Asked x = new Asked(CHECK, "How many NODES a VARIABLE leads to: none");
        x.sizes(0, 0, 0);
        x.node(0, 0);
        x.sizes(0, 0, 0);
        x.hold(0, 0, 0);
        x.sizes(0, 1, 1);
        x.hold(0, NONE, 0);
        x.sizes(0, 0, 0);
    }

    private static void sizeByOneLinkOrBoth() {
        Asked x = ask("by LINK 0 (both false), by both", n(0, NONE, 1), n(0, 2, 3), n(0, NONE, NONE), n(0, NONE, NONE));
        x.sizes(0, 1, 4);
        x.hold(0, 1, 0);
        x.sizes(0, 2, 3);
        x.hold(0, 3, 0);
        x.sizes(0, 1, 1);
    }

    private static void sizeCountsEachOnce() {
        ask("How many NODES: each once, to itself", n(0, 0, 0)).sizes(0, 1, 1);
        ask("How many NODES: each once, two ways", n(0, 1, 1), n(0, NONE, NONE)).sizes(0, 2, 2);
        ask("How many NODES: each once, around", n(0, 1, NONE), n(0, 2, 0), n(0, 1, 3), n(0, 3, 0)).sizes(0, 3, 4);
        ask("How many NODES: not those that lead to it", n(0, NONE, NONE), n(0, 0, 0)).sizes(0, 1, 1);
    }

    private static void sizeOfAllNodes() {
        Asked x = new Asked(CHECK, "How many NODES: 24");
        x.chain(24);
        x.sizes(0, 24, 24);
        x.link(23, 0, 0, 0);
        x.sizes(0, 24, 24);
        x.link(22, 0, NONE, 0);
        x.sizes(0, 23, 23);
        x.link(22, 1, 23, 0);
        x.sizes(0, 23, 24);
    }

    private static void askingChangesNothing() {
        Asked x = ask("Whether, How many: what is asked stays", n(5, 1, 1), n(4, 0, NONE));
        for (int round = 0; round < 2; round++) {
            x.forms(0, "0001001");
            x.sizes(0, 2, 2);
            x.sizes(8, BAD, BAD);
        }
        x.isStart(0, n(5, 1, 1), n(4, 0, NONE));
        x.told(0, 0);
        x.told(1, NONE);
        x.why(0);
    }
}
