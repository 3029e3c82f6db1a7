/**
 * The boundary cases of claims: Terms, 3, and promises 14 and 15. Each method is about one
 * sentence, whose words it gives to the object that it asks.
 */
public final class ClaimEdgesTest {
    private static final int BAD = Asked.BAD;
    private static final int FULL = Asked.FULL;
    private static final int NONE = Asked.NONE;
    private static final int LEAST = Integer.MIN_VALUE;
    private static final int MOST = Integer.MAX_VALUE;
    private static final int LIST = 1;
    private static final int DOUBLY = 2;
    private static final int RING = 3;
    private static final int TREE = 4;
    private static final int SORTED = 5;
    private static final int ANY = 6;
    private static final Check CHECK = new Check();

    public static void main(String[] args) {
        noSuchVariables();
        formIs1To5();
        aimIs0To6();
        sizeIs0To5();
        severalWrongNumbers();
        wrongNumbersChangeNothing();
        startsFrom0();
        startsOfRingsFrom1();
        startsUpToN();
        othersHoldNothing();
        theHeapIsNoStart();
        theSameVariable();
        anotherVariable();
        lastNodesLink();
        ringsLastNodesLink();
        doublysOtherLink();
        othersOtherLink();
        keysInOrder();
        keysNotFalling();
        treesInOrder();
        treesAreNumberedLink0First();
        heldIfForAll();
        firstOneThatBreaks();
        lastOneThatBreaks();
        heapIsTheStart();
        heapStays();
        runIsEnded();
        endedAheadOfForm();
        formAheadOfKeys();
        keysNotAsked();
        keysOfNothing();
        keysMoreAndFewer();
        keysOfOtherNodes();
        keysBeyondThoseOfTheStart();
        keysOfEachNodeOnce();
        keysByLink0OrBoth();
        room();
        spent();
        whyOfNoClaim();
        whyOfTheLatest();
        whyStays();
        allCallsOfAnObject();
        CHECK.end();
    }

    private static Asked ask(String words) {
        return new Asked(CHECK, words);
    }

    private static int[] i(int op, int a, int b, int c) {
        return Asked.i(op, a, b, c);
    }

    private static int[] n(int key, int zero, int one) {
        return Asked.n(key, zero, one);
    }

    private static void noSuchVariables() {
        Asked x = ask("claim: BAD: no such VARIABLES");
        for (int v : new int[] {LEAST, NONE, -2, -1, 8, 9, MOST}) {
            x.claim(v, LIST, 1, 0, LIST, true, BAD);
            x.claim(0, LIST, 1, v, LIST, true, BAD);
            x.claim(v, LIST, 1, v, LIST, true, BAD);
        }
        x.claim(0, LIST, 1, 0, LIST, true, 4);
        x.claim(7, LIST, 1, 7, LIST, true, 4);
    }

    private static void formIs1To5() {
        Asked x = ask("claim: BAD: form is not 1 .. 5");
        for (int form : new int[] {LEAST, NONE, -1, 0, 6, 7, MOST}) {
            x.claim(0, form, 1, 0, ANY, false, BAD);
            x.claim(0, form, 0, 0, ANY, false, BAD);
        }
        int[] many = {4, 4, 3, 2, 4};
        for (int form = 1; form <= 5; form++) {
            x.claim(0, form, 1, 0, ANY, false, many[form - 1]);
        }
    }

    private static void aimIs0To6() {
        Asked x = ask("claim: BAD: aim not 0 .. 6");
        for (int aim : new int[] {LEAST, NONE, -2, -1, 7, 8, MOST}) {
            x.claim(0, LIST, 0, 0, aim, false, BAD);
            x.claim(0, RING, 0, 0, aim, false, BAD);
        }
        for (int aim = 0; aim <= 6; aim++) {
            x.claim(0, LIST, 0, 0, aim, false, aim == RING ? -10 : 1);
        }
    }

    private static void sizeIs0To5() {
        Asked x = ask("claim: BAD: n is not 0 .. 5");
        for (int n : new int[] {LEAST, NONE, -2, -1, 6, 7, 24, MOST}) {
            for (int form = 1; form <= 5; form++) {
                x.claim(0, form, n, 0, ANY, false, BAD);
            }
        }
        x.claim(0, LIST, 0, 0, ANY, false, 1);
        x.claim(0, LIST, 5, 0, ANY, false, 364);
    }

    private static void severalWrongNumbers() {
        Asked x = ask("claim: BAD, of several wrong numbers");
        x.claim(-1, 0, 6, 8, 7, true, BAD);
        x.claim(8, 6, -1, -1, -1, false, BAD);
        x.claim(0, 0, 6, 0, 0, true, BAD);
        x.claim(0, RING, -1, 8, 0, true, BAD);
        x.why(0);
    }

    private static void wrongNumbersChangeNothing() {
        Asked x = ask("claim: BAD changes nothing");
        x.op(3, 0, 0, 0, 0);
        x.claim(0, LIST, 0, 0, LIST, false, -10);
        x.heap(n(7, 0, 1), n(8, NONE, NONE));
        x.hold(0, NONE, 0);
        x.hold(3, 1, 0);
        int[][] wrong = {{8, 1, 1, 0, 1}, {0, 0, 1, 0, 1}, {0, 1, 6, 0, 1}, {0, 1, 1, 8, 1}, {0, 1, 1, 0, 7}};
        for (int[] c : wrong) {
            x.claim(c[0], c[1], c[2], c[3], c[4], true, BAD);
            x.why(1);
            x.told(0, 1);
            x.told(1, 0);
            x.count(0, 2);
            x.of(0, 0, 0);
            x.of(0, 1, 1);
            x.of(1, 2, 8);
            x.held(0, NONE);
            x.held(3, 1);
        }
    }

    private static void startsFrom0() {
        for (int form : new int[] {LIST, DOUBLY, TREE, SORTED}) {
            Asked x = ask("k from 0 to n: form " + form + " of 0");
            x.claim(0, form, 0, 0, form, true, 1);
            x.claim(0, form, 0, 0, 0, true, 1);
            x.node(5, 0);
            x.claim(0, form, 0, 0, RING, true, -10);
            x.isStart(0);
            x.op(3, 0, 0, 0, 0);
            x.claim(0, form, 5, 0, ANY, false, -10);
            x.why(1);
            x.isStart(0);
        }
    }

    private static void startsOfRingsFrom1() {
        Asked x = ask("k from 0 (of 3 from 1) to n: rings");
        x.op(3, 0, 0, 0, 0);
        x.claim(0, RING, 5, 0, RING, true, 363);
        x.claim(0, RING, 1, 0, RING, true, 3);
        x.claim(0, RING, 1, 0, LIST, true, -10);
        x.why(4);
        x.isStart(0, n(0, 0, NONE));
        x.told(0, 1);
        x.claim(0, RING, 0, 0, LIST, true, 0);
        x.why(0);
        x.told(0, 1);
        x.isStart(0, n(0, 0, NONE));
    }

    private static void startsUpToN() {
        Asked x = ask("k from 0 (of 3 from 1) to n: how many STARTS");
        int[][] many = {
            {1, 4, 13, 40, 121, 364}, {1, 4, 13, 40, 121, 364}, {0, 3, 12, 39, 120, 363},
            {1, 2, 4, 9, 23, 65}, {1, 4, 10, 20, 35, 56}};
        for (int form = 1; form <= 5; form++) {
            for (int n = 0; n <= 5; n++) {
                x.claim(7, form, n, 7, form, true, many[form - 1][n]);
                x.claim(0, form, n, 0, ANY, false, many[form - 1][n]);
            }
        }
    }

    private static void othersHoldNothing() {
        Asked x = ask("all VARIABLES hold nothing but that one");
        x.node(1, 0);
        for (int v = 0; v < 8; v++) {
            x.hold(v, 0, 0);
        }
        for (int start = 0; start < 8; start += 7) {
            for (int end = 0; end < 8; end++) {
                x.claim(start, RING, 1, end, 0, false, end == start ? -10 : 3);
                x.claim(start, RING, 1, end, RING, false, end == start ? 3 : -10);
            }
        }
    }

    private static void theHeapIsNoStart() {
        Asked x = ask("STARTS: a HEAP with k NODES, whatever THE HEAP has");
        for (int node = 0; node < 24; node++) {
            x.node(1, node);
            x.link(node, 1, node, 0);
        }
        x.node(1, FULL);
        x.op(0, 1, 0, 0, 0);
        x.claim(0, TREE, 5, 0, TREE, true, 65);
        x.claim(0, LIST, 5, 1, LIST, false, 364);
        x.count(0, 24);
        x.run(3);
    }

    private static void theSameVariable() {
        Asked x = ask("another VARIABLE (it may be the same)");
        x.claim(3, SORTED, 5, 3, SORTED, true, 56);
        x.claim(3, RING, 5, 3, RING, true, 363);
    }

    private static void anotherVariable() {
        Asked x = ask("another VARIABLE");
        x.claim(3, SORTED, 5, 4, SORTED, true, -11);
        x.why(5);
        x.op(2, 4, 3, 0, 0);
        x.claim(3, SORTED, 5, 4, SORTED, true, 56);
        x.claim(4, SORTED, 5, 3, SORTED, true, -11);
        x.isStart(4, n(0, NONE, NONE));
    }

    private static void lastNodesLink() {
        Asked x = ask("NODE i's LINK 0 is i + 1, the last one's nothing");
        breaksAtSize(x, 5);
        x.claim(0, LIST, 4, 0, ANY, false, 121);
        x.claim(0, LIST, 5, 0, ANY, false, -10 - 121);
        x.isStart(0, n(0, 1, NONE), n(0, 2, NONE), n(0, 3, NONE), n(0, 4, NONE), n(0, NONE, NONE));
        x.claim(0, SORTED, 5, 0, ANY, false, -10 - 35);
        x.isStart(0, n(0, 1, NONE), n(0, 2, NONE), n(0, 3, NONE), n(0, 4, NONE), n(0, NONE, NONE));
    }

    // A program that fails at chains of at least so many nodes, and goes over no more than these.
    private static void breaksAtSize(Asked x, int size) {
        for (int k = 0; k < size; k++) {
            x.op(5, 0, 59, 0, 2 * k);
            x.op(3, 0, 0, 0, 2 * k + 1);
        }
        x.op(3, 7, 7, 0, 2 * size);
    }

    private static void ringsLastNodesLink() {
        Asked x = ask("the last one's nothing (3: NODE 0)");
        x.op(10, 0, 0, 0, 0);
        x.claim(0, RING, 5, 0, 0, false, -10);
        x.isStart(0, n(0, 0, NONE));
        x.clear(1);
        x.program(0, i(3, 1, 0, 0), i(6, 0, 1, 59), i(3, 1, 1, 0), i(6, 0, 1, 59), i(3, 7, 7, 0));
        x.claim(0, RING, 5, 0, RING, true, -10 - 12);
        x.isStart(0, n(0, 1, NONE), n(0, 2, NONE), n(0, 0, NONE));
    }

    private static void doublysOtherLink() {
        Asked x = ask("2: LINK 1 as in 2");
        breaksAtSize(x, 4);
        x.claim(6, DOUBLY, 5, 6, DOUBLY, true, 364);
        x.claim(0, DOUBLY, 5, 0, ANY, false, -10 - 40);
        x.isStart(0, n(0, 1, NONE), n(0, 2, 0), n(0, 3, 1), n(0, NONE, 2));
    }

    private static void othersOtherLink() {
        Asked x = ask("LINK 1 of those of 1, 3, 5: nothing at first");
        x.claim(0, LIST, 5, 0, TREE, true, 364);
        x.claim(0, SORTED, 5, 0, TREE, true, 56);
        x.program(0, i(5, 0, 59, 0), i(3, 1, 0, 1));
        x.claim(0, LIST, 5, 1, 0, false, 364);
        x.claim(0, RING, 5, 1, 0, false, 363);
        x.claim(0, SORTED, 5, 1, 0, false, 56);
    }

    private static void keysInOrder() {
        Asked x = ask("KEYS are any of 0, 1, 2, in order of the rows of KEYS, NODE 0's first");
        x.claim(0, LIST, 2, 0, SORTED, true, -10 - 7);
        x.isStart(0, n(1, 1, NONE), n(0, NONE, NONE));
        x.program(0, i(0, 6, 1, 0), i(5, 0, 59, 0), i(7, 6, 0, 4), i(10, 0, 0, 0), i(3, 1, 0, 0), i(5, 1, 59, 0),
            i(7, 6, 1, 8), i(10, 0, 0, 0), i(3, 7, 7, 0));
        x.claim(0, LIST, 2, 0, ANY, false, -10 - 12);
        x.isStart(0, n(2, 1, NONE), n(2, NONE, NONE));
        x.claim(0, LIST, 3, 0, ANY, false, -10 - 12);
        x.claim(0, RING, 2, 0, ANY, false, -10 - 2);
        x.isStart(0, n(2, 0, NONE));
    }

    private static void keysNotFalling() {
        Asked x = ask("(5: not falling)");
        x.claim(0, SORTED, 5, 0, SORTED, true, 56);
        x.program(0, i(0, 6, 0, 0), i(5, 0, 59, 0), i(7, 6, 0, 4), i(10, 0, 0, 0), i(3, 0, 0, 0), i(5, 0, 59, 0),
            i(3, 7, 7, 0));
        x.claim(0, SORTED, 2, 0, ANY, false, -10 - 7);
        x.isStart(0, n(1, 1, NONE), n(1, NONE, NONE));
        x.claim(0, LIST, 2, 0, ANY, false, -10 - 7);
        x.isStart(0, n(1, 1, NONE), n(0, NONE, NONE));
    }

    private static void treesInOrder() {
        Asked x = ask("all trees: in order of the rows of their LINKS, nothing less");
        x.claim(0, TREE, 5, 0, 0, false, -11);
        x.isStart(0, n(0, NONE, NONE));
        x.claim(0, TREE, 5, 0, LIST, true, -12);
        x.isStart(0, n(0, NONE, 1), n(0, NONE, NONE));
        x.program(0, i(5, 0, 59, 0), i(3, 1, 0, 0), i(5, 1, 59, 0), i(3, 7, 7, 0));
        x.claim(0, TREE, 5, 0, TREE, true, -13);
        x.isStart(0, n(0, 1, NONE), n(0, NONE, NONE));
    }

    // Both LINKS of NODE 0 lead to something: the last tree of 3, and the last four of 4.
    private static void treesAreNumberedLink0First() {
        Asked x = ask("NODES are numbered as they are come to, LINK 0 and all below it ahead of LINK 1");
        x.program(0, i(5, 0, 59, 0), i(3, 1, 0, 0), i(3, 2, 0, 1), i(5, 1, 59, 0), i(5, 2, 59, 0),
            i(3, 7, 7, 0));
        x.claim(0, TREE, 5, 0, TREE, true, -10 - 8);
        x.isStart(0, n(0, 1, 2), n(0, NONE, NONE), n(0, NONE, NONE));
        x.clear(6);
        x.program(0, i(5, 0, 59, 0), i(3, 1, 0, 0), i(3, 2, 0, 1), i(5, 1, 59, 0), i(5, 2, 59, 0), i(3, 3, 1, 1),
            i(5, 3, 59, 0), i(3, 7, 7, 0));
        x.claim(0, TREE, 5, 0, TREE, true, -10 - 21);
        x.isStart(0, n(0, 1, 3), n(0, NONE, 2), n(0, NONE, NONE), n(0, NONE, NONE));
    }

    private static void heldIfForAll() {
        Asked x = ask("how many STARTS it HOLDS for, if for all");
        x.op(1, 0, 0, 0, 0);
        x.claim(0, LIST, 5, 0, 0, false, 364);
        x.claim(0, RING, 0, 0, RING, false, 0);
        x.claim(0, TREE, 0, 0, 0, true, 1);
        x.why(0);
    }

    private static void firstOneThatBreaks() {
        Asked x = ask("-10 less the number (from 0 on) of the first one for which it does not");
        x.claim(0, LIST, 5, 0, RING, false, -10);
        x.claim(0, LIST, 5, 0, 0, false, -11);
        x.claim(0, LIST, 5, 0, DOUBLY, false, -14);
    }

    private static void lastOneThatBreaks() {
        Asked x = ask("-10 less the number, of the last one");
        x.op(0, 6, 1, 0, 0);
        for (int k = 0; k < 5; k++) {
            int at = 1 + 4 * k;
            x.program(at, i(5, 0, 59, 0), i(7, 6, 0, at + 3), i(10, 0, 0, 0), i(3, 0, 0, 0));
        }
        x.op(3, 7, 7, 0, 21);
        x.claim(0, LIST, 5, 0, ANY, false, -10 - 363);
        x.isStart(0, n(2, 1, NONE), n(2, 2, NONE), n(2, 3, NONE), n(2, 4, NONE), n(2, NONE, NONE));
        x.claim(0, SORTED, 5, 0, ANY, false, -10 - 55);
        x.claim(0, DOUBLY, 5, 0, ANY, false, -10 - 363);
        x.isStart(0, n(2, 1, NONE), n(2, 2, 0), n(2, 3, 1), n(2, 4, 2), n(2, NONE, 3));
    }

    private static void heapIsTheStart() {
        Asked x = ask("the HEAP is that START then, as THE PROGRAM found it");
        x.chain(24);
        x.hold(7, 23, 0);
        x.program(0, i(0, 1, 9, 0), i(9, 0, 8, 0), i(4, 0, 1, 1), i(1, 0, 0, 0), i(3, 2, 0, 0));
        x.claim(0, RING, 2, 0, ANY, false, -10);
        x.why(1);
        x.told(0, 5);
        x.told(1, 4);
        x.isStart(0, n(0, 0, NONE));
        x.runs(1, 5, 4);
        x.count(0, 2);
        x.of(0, 2, 8);
        x.of(0, 1, 1);
    }

    private static void heapStays() {
        Asked x = ask("the HEAP (else it stays)");
        x.program(0, i(0, 1, 9, 0), i(5, 0, 59, 0), i(9, 0, 8, 0), i(4, 0, 1, 1), i(1, 0, 0, 0));
        x.heap(n(5, 1, 1), n(6, NONE, 0));
        x.claim(0, RING, 5, 0, 0, false, 363);
        x.isStart(0, n(5, 1, 1), n(6, NONE, 0));
        x.claim(0, RING, 0, 0, 0, false, 0);
        x.isStart(0, n(5, 1, 1), n(6, NONE, 0));
        x.count(1, 5);
    }

    private static void runIsEnded() {
        Asked x = ask("It HOLDS, if the RUN is ENDED: by END, behind the last one");
        x.claim(0, LIST, 1, 0, LIST, true, 4);
        x.op(10, 0, 0, 0, 0);
        x.claim(0, LIST, 1, 0, LIST, true, 4);
        x.clear(1);
        x.op(8, 59, 0, 0, 0);
        x.claim(0, LIST, 1, 0, LIST, true, 4);
        x.clear(1);
        x.op(3, 0, 0, 0, 0);
        x.claim(0, LIST, 1, 0, LIST, true, -10);
        x.why(1);
    }

    private static void endedAheadOfForm() {
        Asked x = ask("How it broke: the RUN, ahead of the FORM and KEYS");
        x.op(3, 7, 7, 0, 0);
        x.claim(0, RING, 1, 0, LIST, true, -10);
        x.why(1);
        x.clear(1);
        x.op(8, 0, 0, 0, 0);
        x.claim(0, RING, 1, 1, RING, true, -10);
        x.why(2);
        x.clear(1);
        x.program(0, i(0, 1, 0, 0), i(8, 0, 0, 0));
        x.claim(0, RING, 1, 0, 0, true, -10);
        x.why(3);
    }

    private static void formAheadOfKeys() {
        Asked x = ask("How it broke: the FORM, ahead of KEYS");
        x.claim(0, RING, 1, 1, RING, true, -10);
        x.why(4);
        x.claim(0, RING, 1, 1, LIST, true, -10);
        x.why(5);
        x.claim(0, RING, 1, 1, LIST, false, 3);
        x.why(0);
    }

    private static void keysNotAsked() {
        Asked x = ask("(if that is asked)");
        x.program(0, i(5, 0, 59, 0), i(9, 0, 7, 0));
        x.claim(0, LIST, 5, 0, LIST, false, 364);
        x.claim(0, LIST, 5, 0, LIST, true, -11);
        x.why(5);
        x.claim(0, LIST, 0, 0, LIST, true, 1);
    }

    private static void keysOfNothing() {
        Asked x = ask("as many have each KEY: none, of no NODES");
        x.claim(0, LIST, 0, 0, 0, true, 1);
        x.claim(0, LIST, 1, 1, 0, true, -11);
        x.why(5);
        x.isStart(0, n(0, NONE, NONE));
        x.op(0, 1, 0, 0, 0);
        x.claim(0, LIST, 0, 1, LIST, true, -10);
        x.why(5);
        x.isStart(0);
    }

    private static void keysMoreAndFewer() {
        Asked x = ask("as many have each KEY, not more, not fewer");
        x.program(0, i(0, 1, 2, 0), i(4, 1, 0, 0));
        x.claim(0, LIST, 5, 1, LIST, true, -10);
        x.why(5);
        x.clear(2);
        x.program(0, i(5, 0, 59, 0), i(3, 0, 0, 0));
        x.claim(0, LIST, 5, 0, LIST, true, -11);
        x.why(5);
        x.clear(2);
        x.program(0, i(5, 0, 59, 0), i(3, 1, 0, 0), i(5, 1, 59, 0), i(9, 0, 0, 0), i(9, 1, 1, 0));
        x.claim(0, LIST, 2, 0, LIST, true, -10 - 4);
        x.claim(0, SORTED, 2, 0, LIST, true, -10 - 4);
        x.isStart(0, n(0, 1, NONE), n(0, NONE, NONE));
    }

    private static void keysOfOtherNodes() {
        Asked x = ask("as many have each KEY, of whichever NODES");
        x.program(0, i(5, 0, 3, 0), i(0, 1, 0, 0), i(10, 0, 0, 0), i(10, 0, 0, 0));
        x.claim(0, TREE, 1, 1, TREE, true, 2);
        x.claim(0, TREE, 2, 1, TREE, true, -12);
        x.why(5);
        x.claim(0, LIST, 1, 1, LIST, true, -12);
        x.isStart(0, n(1, NONE, NONE));
    }

    private static void keysBeyondThoseOfTheStart() {
        for (int key : new int[] {LEAST, NONE, -1, 3, MOST}) {
            Asked x = ask("as many have each KEY, also one that no START has: " + key);
            x.program(0, i(5, 0, 59, 0), i(9, 0, key, 0));
            x.claim(0, TREE, 5, 0, TREE, true, -11);
            x.why(5);
            x.claim(0, RING, 5, 0, RING, true, -10);
            x.why(5);
            x.claim(0, RING, 5, 0, RING, false, 363);
        }
    }

    private static void keysOfEachNodeOnce() {
        Asked x = ask("each NODE once");
        x.claim(0, RING, 5, 0, RING, true, 363);
        x.program(0, i(5, 0, 59, 0), i(4, 0, 1, 0));
        x.claim(0, LIST, 5, 0, LIST, true, 364);
        x.claim(0, RING, 5, 0, ANY, true, 363);
        x.clear(2);
        x.program(0, i(5, 0, 59, 0), i(3, 1, 0, 0), i(5, 1, 59, 0), i(4, 1, 0, 1));
        x.claim(0, RING, 2, 0, ANY, true, 12);
    }

    private static void keysByLink0OrBoth() {
        Asked x = ask("by LINK 0 (if the other FORM is TREE: by both)");
        x.claim(0, TREE, 5, 0, TREE, true, 65);
        x.claim(0, TREE, 5, 0, ANY, true, -12);
        x.why(5);
        x.claim(0, TREE, 5, 0, LIST, true, -12);
        x.why(5);
        x.claim(0, TREE, 5, 0, SORTED, true, -12);
        x.why(5);
        x.claim(0, DOUBLY, 5, 0, DOUBLY, true, 364);
        x.program(0, i(5, 0, 59, 0), i(0, 1, 0, 0), i(4, 0, 1, 1));
        x.claim(0, LIST, 5, 0, LIST, true, 364);
        x.claim(0, LIST, 5, 0, TREE, true, -11);
        x.why(5);
    }

    private static void room() {
        Asked x = ask("a 25th NODE, those of the START counted");
        for (int k = 0; k < 20; k++) {
            x.op(0, 7, 0, 0, k);
        }
        x.claim(0, LIST, 4, 0, LIST, true, 121);
        x.told(0, 20);
        x.claim(0, LIST, 5, 0, LIST, true, -10 - 121);
        x.why(3);
        x.told(0, 20);
        x.told(1, 19);
        x.count(0, 5);
        x.held(7, NONE);
        x.claim(0, RING, 5, 0, RING, true, -10 - 120);
        x.why(3);
    }

    private static void spent() {
        Asked x = ask("500 instructions, for each START anew");
        x.program(0, i(5, 0, 59, 0), i(3, 0, 0, 0), i(8, 0, 0, 0));
        x.claim(0, LIST, 5, 0, 0, false, 364);
        x.told(0, 16);
        x.claim(0, RING, 5, 0, 0, false, -10);
        x.why(2);
        x.told(0, 500);
        x.told(1, 1);
        x.isStart(0, n(0, 0, NONE));
    }

    private static void whyOfNoClaim() {
        Asked x = ask("why: none was made");
        x.why(0);
        x.op(3, 0, 0, 0, 0);
        x.run(1);
        x.why(0);
        x.claim(0, LIST, 6, 0, LIST, true, BAD);
        x.why(0);
    }

    private static void whyOfTheLatest() {
        Asked x = ask("why: How the latest CLAIM broke: 0 it did not");
        x.claim(0, LIST, 1, 0, RING, true, -10);
        x.why(4);
        x.claim(0, LIST, 1, 0, LIST, true, 4);
        x.why(0);
        x.claim(0, LIST, 1, 1, LIST, true, -11);
        x.why(5);
        x.claim(0, RING, 0, 1, LIST, true, 0);
        x.why(0);
    }

    private static void whyStays() {
        Asked x = ask("why: the latest CLAIM, whatever comes behind it");
        x.claim(0, LIST, 1, 1, LIST, true, -11);
        x.claim(0, LIST, -1, 1, LIST, true, BAD);
        x.why(5);
        x.node(1, 1);
        x.link(0, 0, 1, 0);
        x.hold(1, 1, 0);
        x.op(3, 7, 7, 0, 0);
        x.run(1);
        x.why(5);
        x.clear(1);
        x.empty(2);
        x.why(5);
    }

    // Turns a list around; the dearest claim again and again, until the object may not be asked more.
    private static void allCallsOfAnObject() {
        Asked x = ask("An object is used for at most 512 calls");
        x.program(0, i(1, 1, 0, 0), i(5, 0, 7, 0), i(3, 2, 0, 0), i(4, 0, 0, 1), i(2, 1, 0, 0), i(2, 0, 2, 0),
            i(8, 1, 0, 0));
        x.node(5, 0);
        while (x.calls() < 504) {
            x.claim(0, LIST, 5, 1, LIST, true, 364);
            x.claim(0, TREE, 5, 1, LIST, false, 65);
            x.claim(0, RING, 5, 1, RING, true, 363);
            x.why(0);
        }
        x.told(0, 1 + 6 * 6 + 1);
        x.told(1, 1);
        x.count(1, 7);
        x.of(0, 2, 5);
        x.claim(0, SORTED, 5, 1, SORTED, true, -15);
        x.why(4);
        x.count(0, 2);
        x.held(0, 0);
        CHECK.due("calls of the object", x.calls(), 512);
    }
}
