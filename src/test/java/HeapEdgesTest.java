/**
 * The boundary cases of the heap: Terms, 1, and promises 1, 4, 5, 6, 7, 10, 11 and 16. Each method
 * is about one sentence, whose words it gives to the object that it asks.
 */
public final class HeapEdgesTest {
    private static final int BAD = Asked.BAD;
    private static final int FULL = Asked.FULL;
    private static final int NONE = Asked.NONE;
    private static final int LEAST = Integer.MIN_VALUE;
    private static final int MOST = Integer.MAX_VALUE;
    private static final Check CHECK = new Check();

    public static void main(String[] args) {
        emptyAtFirst();
        nodesAreNumberedAsTheyCome();
        nodesComeByHandAndByRuns();
        atMost24Nodes();
        roomAgainAfterEmpty();
        keysAreInts();
        linksAreNothingAtFirst();
        linksAreNothingWhenNumbersComeAgain();
        linksAreNothingBehindAStart();
        linksToNodesOrNothing();
        linksOfNoSuchNode();
        noSuchLink();
        variablesHoldNothingAtFirst();
        variables0To7();
        holdsNodesOrNothing();
        asksOfNoSuchNode();
        asksOfNoSuchThing();
        emptiesAnEmptyHeap();
        emptiesAFullHeap();
        emptyLeavesTheRest();
        counts();
        CHECK.end();
    }

    private static Asked ask(String words) {
        return new Asked(CHECK, words);
    }

    private static void emptyAtFirst() {
        Asked x = ask("An empty HEAP and PROGRAM");
        x.count(0, 0);
        x.count(1, 0);
        x.of(0, 0, BAD);
        x.of(0, 1, BAD);
        x.of(0, 2, BAD);
        x.link(0, 0, NONE, BAD);
        x.hold(0, 0, BAD);
        x.runs(0, 0, NONE);
        x.why(0);
    }

    private static void nodesAreNumberedAsTheyCome() {
        Asked x = ask("NODES, numbered as they come");
        x.node(7, 0);
        x.of(1, 2, BAD);
        x.node(7, 1);
        x.node(5, 2);
        x.of(0, 2, 7);
        x.of(1, 2, 7);
        x.of(2, 2, 5);
        x.of(3, 2, BAD);
    }

    private static void nodesComeByHandAndByRuns() {
        Asked x = ask("NODES, numbered as they come, by hand and by NEW");
        x.op(0, 1, 7, 0, 0);
        x.node(3, 0);
        x.run(0);
        x.held(1, 1);
        x.node(4, 2);
        x.run(0);
        x.held(1, 3);
        x.of(1, 2, 7);
        x.of(2, 2, 4);
        x.of(3, 2, 7);
        x.count(0, 4);
    }

    private static void atMost24Nodes() {
        Asked x = ask("NODES (24 at most)");
        for (int i = 0; i < 24; i++) {
            x.node(100 + i, i);
        }
        x.node(124, FULL);
        x.node(NONE, FULL);
        x.count(0, 24);
        for (int i = 0; i < 24; i++) {
            x.of(i, 2, 100 + i);
        }
        x.of(24, 2, BAD);
        x.link(0, 0, 23, 0);
        x.link(23, 1, 23, 0);
        x.link(23, 0, 24, BAD);
        x.hold(0, 23, 0);
        x.hold(0, 24, BAD);
        x.held(0, 23);
    }

    private static void roomAgainAfterEmpty() {
        Asked x = ask("The HEAP is empty: 24 NODES have room again");
        for (int i = 0; i < 24; i++) {
            x.node(1, i);
        }
        x.node(1, FULL);
        x.empty(24);
        for (int i = 0; i < 24; i++) {
            x.node(2, i);
        }
        x.node(2, FULL);
        x.of(23, 2, 2);
    }

    private static void keysAreInts() {
        Asked x = ask("a KEY (an int)");
        int[] keys = {LEAST, LEAST + 1, NONE, FULL, BAD, 0, 1, MOST};
        for (int i = 0; i < keys.length; i++) {
            x.node(keys[i], i);
        }
        for (int i = 0; i < keys.length; i++) {
            x.of(i, 2, keys[i]);
        }
    }

    private static void linksAreNothingAtFirst() {
        Asked x = ask("LINKS, nothing at first");
        x.op(0, 1, 0, 0, 0);
        x.node(0, 0);
        x.run(0);
        for (int i = 0; i < 2; i++) {
            x.of(i, 0, NONE);
            x.of(i, 1, NONE);
        }
    }

    private static void linksAreNothingWhenNumbersComeAgain() {
        Asked x = ask("LINKS, nothing at first, also of a NODE whose number was there before");
        x.heap(Asked.n(1, 1, 1), Asked.n(2, 0, 0));
        x.empty(2);
        x.node(3, 0);
        x.op(0, 1, 4, 0, 0);
        x.run(0);
        for (int i = 0; i < 2; i++) {
            x.of(i, 0, NONE);
            x.of(i, 1, NONE);
        }
        x.of(0, 2, 3);
        x.of(1, 2, 4);
    }

    private static void linksAreNothingBehindAStart() {
        Asked x = ask("LINKS, nothing at first, also of a NODE behind those of a START");
        x.heap(Asked.n(1, 1, 1), Asked.n(2, 0, 0));
        x.claim(0, 3, 1, 0, 0, false, -10);
        x.node(9, 1);
        x.of(1, 0, NONE);
        x.of(1, 1, NONE);
        x.of(1, 2, 9);
    }

    private static void linksToNodesOrNothing() {
        Asked x = ask("A LINK of a NODE becomes another NODE (NONE: nothing)");
        x.node(0, 0);
        x.node(0, 1);
        x.link(1, 0, 0, 0);
        x.link(1, 1, 1, 0);
        x.of(1, 0, 0);
        x.of(1, 1, 1);
        x.of(0, 0, NONE);
        x.of(0, 1, NONE);
        for (int to : new int[] {LEAST, NONE - 1, NONE + 1, FULL, -2, -1, 2, 23, 24, MOST}) {
            x.link(1, 0, to, BAD);
            x.of(1, 0, 0);
        }
        x.link(1, 0, NONE, 0);
        x.of(1, 0, NONE);
        x.of(1, 1, 1);
        x.link(1, 0, NONE, 0);
        x.link(1, 1, NONE, 0);
        x.of(1, 1, NONE);
    }

    private static void linksOfNoSuchNode() {
        Asked x = ask("link: BAD: none such, the NODE");
        x.link(0, 0, NONE, BAD);
        x.node(0, 0);
        for (int node : new int[] {LEAST, NONE, FULL, -1, 1, 23, 24, MOST}) {
            x.link(node, 0, 0, BAD);
            x.link(node, 1, NONE, BAD);
        }
        x.of(0, 0, NONE);
        x.of(0, 1, NONE);
    }

    private static void noSuchLink() {
        Asked x = ask("two LINKS, 0 and 1");
        x.node(5, 0);
        for (int f : new int[] {LEAST, NONE, -2, -1, 2, 3, MOST}) {
            x.link(0, f, 0, BAD);
            x.link(0, f, NONE, BAD);
        }
        x.of(0, 0, NONE);
        x.of(0, 1, NONE);
        x.of(0, 2, 5);
    }

    private static void variablesHoldNothingAtFirst() {
        Asked x = ask("VARIABLES hold nothing (at first)");
        for (int v = 0; v < 8; v++) {
            x.held(v, NONE);
        }
        x.node(1, 0);
        for (int v = 0; v < 8; v++) {
            x.held(v, NONE);
        }
    }

    private static void variables0To7() {
        Asked x = ask("VARIABLES 0 .. 7");
        for (int v = 0; v < 8; v++) {
            x.node(0, v);
            x.hold(v, v, 0);
        }
        for (int v : new int[] {LEAST, NONE, -2, -1, 8, 9, MOST}) {
            x.held(v, BAD);
            x.hold(v, 0, BAD);
            x.hold(v, NONE, BAD);
        }
        for (int v = 0; v < 8; v++) {
            x.held(v, v);
        }
    }

    private static void holdsNodesOrNothing() {
        Asked x = ask("A VARIABLE holds a NODE (NONE: nothing)");
        x.hold(7, NONE, 0);
        x.hold(7, 0, BAD);
        x.node(0, 0);
        x.node(0, 1);
        x.hold(7, 1, 0);
        for (int node : new int[] {LEAST, NONE - 1, NONE + 1, FULL, -2, -1, 2, 23, 24, MOST}) {
            x.hold(7, node, BAD);
            x.held(7, 1);
        }
        x.hold(7, 0, 0);
        x.held(7, 0);
        x.hold(7, NONE, 0);
        x.held(7, NONE);
        x.count(0, 2);
    }

    private static void asksOfNoSuchNode() {
        Asked x = ask("of: BAD: none such, the NODE");
        for (int node : new int[] {LEAST, NONE, FULL, -1, 0, 23, 24, MOST}) {
            for (int what = 0; what < 3; what++) {
                x.of(node, what, BAD);
            }
        }
        x.node(4, 0);
        x.of(0, 2, 4);
        x.of(1, 2, BAD);
        x.of(-1, 2, BAD);
    }

    private static void asksOfNoSuchThing() {
        Asked x = ask("Of a NODE: 0, 1 its LINKS (NONE: nothing), 2 its KEY. BAD: none such");
        x.node(4, 0);
        x.node(5, 1);
        x.link(0, 0, 1, 0);
        x.of(0, 0, 1);
        x.of(0, 1, NONE);
        x.of(0, 2, 4);
        for (int what : new int[] {LEAST, NONE, FULL, -2, -1, 3, 4, MOST}) {
            x.of(0, what, BAD);
        }
    }

    private static void emptiesAnEmptyHeap() {
        Asked x = ask("empty: how many NODES it had, none");
        x.empty(0);
        x.node(1, 0);
        x.empty(1);
        x.empty(0);
        x.count(0, 0);
    }

    private static void emptiesAFullHeap() {
        Asked x = ask("empty: all VARIABLES hold nothing: how many NODES it had, 24");
        x.chain(24);
        for (int v = 0; v < 8; v++) {
            x.hold(v, 23 - v, 0);
        }
        x.empty(24);
        x.count(0, 0);
        for (int v = 0; v < 8; v++) {
            x.held(v, NONE);
            x.size(v, true, 0);
        }
        x.of(0, 2, BAD);
        x.of(23, 2, BAD);
        x.hold(0, 0, BAD);
        x.node(1, 0);
        x.held(0, NONE);
    }

    private static void emptyLeavesTheRest() {
        Asked x = ask("empty: the HEAP, and no more than that");
        x.op(3, 0, 0, 0, 0);
        x.claim(0, 1, 1, 0, 1, false, -10);
        x.node(1, 0);
        x.hold(0, 0, 0);
        x.runs(0, 1, 0);
        x.empty(1);
        x.count(1, 1);
        x.told(0, 1);
        x.told(1, 0);
        x.why(1);
        x.runs(1, 1, 0);
    }

    private static void counts() {
        Asked x = ask("How many: 0 NODES, 1 INSTRUCTIONS. BAD");
        x.node(1, 0);
        x.node(1, 1);
        x.op(10, 0, 0, 0, 0);
        x.count(0, 2);
        x.count(1, 1);
        for (int what : new int[] {LEAST, NONE, FULL, -2, -1, 2, 3, MOST}) {
            x.count(what, BAD);
        }
    }
}
