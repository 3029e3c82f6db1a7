/**
 * The boundary cases of the program and its runs: Terms, 1, and promises 2, 3, 8 and 9. Each
 * method is about one sentence, whose words it gives to the object that it asks.
 */
public final class RunEdgesTest {
    private static final int BAD = Asked.BAD;
    private static final int FULL = Asked.FULL;
    private static final int NONE = Asked.NONE;
    private static final int LEAST = Integer.MIN_VALUE;
    private static final int MOST = Integer.MAX_VALUE;
    private static final Check CHECK = new Check();

    public static void main(String[] args) {
        upTo60Instructions();
        badAheadOfFull();
        noSuchOp();
        for (int op = 0; op < Asked.HAS.length; op++) {
            for (int part = 0; part < 3; part++) {
                numbersOf(op, part);
            }
        }
        whatAnOpHasNot();
        clearsAnEmptyProgram();
        clearsAFullProgram();
        clearLeavesTheRest();
        newNodes();
        noneOfNothing();
        copies();
        gets();
        puts();
        goesOnIfNone();
        goesOnIfSame();
        goesOnIfLess();
        goesOnAtItself();
        keysBecomeAnyInt();
        endsAtEnd();
        beginsAt0();
        endsBehindTheLast();
        endsAtPlacesBehindTheLast();
        endsBehindPlace59();
        linkOfNothing();
        putIntoNothing();
        lessOfNothing();
        keyOfNothing();
        nothingIsNoFault();
        spentAfter500();
        spentAheadOfOtherFaults();
        roomFor24();
        whatWasDoneStays();
        toldBeforeAnyRun();
        toldOfARunOfNothing();
        toldOfFaults();
        toldOfClaims();
        toldStays();
        toldOfAnotherWhat();
        CHECK.end();
    }

    private static Asked ask(String words) {
        return new Asked(CHECK, words);
    }

    private static int[] i(int op, int a, int b, int c) {
        return Asked.i(op, a, b, c);
    }

    private static void upTo60Instructions() {
        Asked x = ask("THE PROGRAM has up to 60 INSTRUCTIONS");
        for (int n = 0; n < 60; n++) {
            x.op(1, 0, 0, 0, n);
            x.count(1, n + 1);
        }
        x.op(1, 0, 0, 0, FULL);
        x.op(10, 0, 0, 0, FULL);
        x.count(1, 60);
        x.runs(0, 60, 59);
    }

    private static void badAheadOfFull() {
        Asked x = ask("BAD, FULL: of several the first one");
        for (int n = 0; n < 60; n++) {
            x.op(1, 0, 0, 0, n);
        }
        x.op(-1, 0, 0, 0, BAD);
        x.op(11, 0, 0, 0, BAD);
        x.op(0, 8, 0, 0, BAD);
        x.op(2, 0, -1, 0, BAD);
        x.op(3, 0, 0, 2, BAD);
        x.op(4, 0, 2, 0, BAD);
        x.op(8, 60, 0, 0, BAD);
        x.op(8, 59, 60, 60, FULL);
        x.op(10, -1, 60, MOST, FULL);
        x.count(1, 60);
    }

    private static void noSuchOp() {
        Asked x = ask("BAD: no such op");
        for (int op : new int[] {LEAST, NONE, FULL, -2, -1, 11, 12, MOST}) {
            x.op(op, 0, 0, 0, BAD);
        }
        x.count(1, 0);
        x.op(0, 0, 0, 0, 0);
        x.op(10, 0, 0, 0, 1);
        x.count(1, 2);
    }

    private static void numbersOf(int op, int part) {
        char has = Asked.HAS[op].charAt(part);
        Asked x = ask("op " + op + ": VARIABLES, LINKS, places to go on (0 .. 59) that it has");
        int number = 0;
        for (int value : new int[] {LEAST, NONE, FULL, -2, -1, 0, 1, 2, 6, 7, 8, 9, 58, 59, 60, 61, MOST}) {
            boolean fits = has == '-' || value >= 0 && value <= Asked.greatest(has);
            x.op(op, part == 0 ? value : 0, part == 1 ? value : 0, part == 2 ? value : 0, fits ? number : BAD);
            number += fits ? 1 : 0;
            x.count(1, number);
        }
    }

    private static void whatAnOpHasNot() {
        Asked x = ask("What an op has not counts for nothing");
        x.node(4, 0);
        x.hold(0, 0, 0);
        x.program(0, i(0, 1, 5, LEAST), i(1, 2, MOST, LEAST), i(2, 2, 0, 8), i(5, 7, 5, -1), i(10, 0, 0, 0),
            i(8, 7, LEAST, MOST), i(10, 0, 0, 0), i(9, 2, 6, NONE), i(10, LEAST, MOST, NONE), i(1, 2, 0, 0));
        x.runs(0, 7, 8);
        x.held(1, 1);
        x.of(1, 2, 5);
        x.held(2, 0);
        x.of(0, 2, 6);
    }

    private static void clearsAnEmptyProgram() {
        Asked x = ask("clear: how many INSTRUCTIONS it had, none");
        x.clear(0);
        x.op(10, 0, 0, 0, 0);
        x.clear(1);
        x.clear(0);
        x.count(1, 0);
    }

    private static void clearsAFullProgram() {
        Asked x = ask("clear: how many INSTRUCTIONS it had, 60");
        for (int n = 0; n < 60; n++) {
            x.op(3, 0, 0, 0, n);
        }
        x.op(3, 0, 0, 0, FULL);
        x.clear(60);
        x.count(1, 0);
        x.runs(0, 0, NONE);
        x.op(1, 0, 0, 0, 0);
        x.runs(0, 1, 0);
        for (int n = 1; n < 60; n++) {
            x.op(1, 0, 0, 0, n);
        }
        x.op(1, 0, 0, 0, FULL);
    }

    private static void clearLeavesTheRest() {
        Asked x = ask("clear: THE PROGRAM, and no more than that");
        x.op(3, 0, 0, 0, 0);
        x.claim(0, 1, 1, 0, 1, false, -10);
        x.node(1, 0);
        x.link(0, 0, 0, 0);
        x.hold(0, 0, 0);
        x.runs(0, 1, 0);
        x.clear(1);
        x.told(0, 1);
        x.told(1, 0);
        x.why(1);
        x.count(0, 1);
        x.held(0, 0);
        x.of(0, 0, 0);
        x.of(0, 2, 1);
    }

    private static void newNodes() {
        Asked x = ask("NEW: a holds a new NODE, its KEY is b");
        x.program(0, i(0, 7, LEAST, 0), i(0, 7, MOST, 0), i(0, 0, NONE, 0));
        x.runs(0, 3, 2);
        x.held(7, 1);
        x.held(0, 2);
        x.of(0, 2, LEAST);
        x.of(1, 2, MOST);
        x.of(2, 2, NONE);
        x.count(0, 3);
    }

    private static void noneOfNothing() {
        Asked x = ask("NONE: a holds nothing");
        x.program(0, i(1, 0, 0, 0), i(1, 7, 0, 0));
        x.node(1, 0);
        x.hold(7, 0, 0);
        x.runs(0, 2, 1);
        x.held(0, NONE);
        x.held(7, NONE);
        x.count(0, 1);
    }

    private static void copies() {
        Asked x = ask("COPY: a holds what b holds");
        x.program(0, i(2, 0, 7, 0), i(2, 7, 7, 0), i(2, 6, 5, 0), i(2, 5, 5, 0));
        x.node(1, 0);
        x.hold(7, 0, 0);
        x.hold(6, 0, 0);
        x.runs(0, 4, 3);
        x.held(0, 0);
        x.held(7, 0);
        x.held(6, NONE);
        x.held(5, NONE);
    }

    private static void gets() {
        Asked x = ask("GET: a holds b.c");
        x.program(0, i(3, 1, 0, 0), i(3, 2, 0, 1), i(3, 0, 0, 1), i(3, 0, 0, 0));
        x.heap(Asked.n(0, 1, 2), Asked.n(0, 0, 0), Asked.n(0, NONE, 0));
        x.runs(0, 4, 3);
        x.held(1, 1);
        x.held(2, 2);
        x.held(0, NONE);
    }

    private static void puts() {
        Asked x = ask("PUT: a.b becomes what c holds");
        x.program(0, i(4, 0, 0, 7), i(4, 0, 1, 0), i(4, 7, 1, 3));
        x.heap(Asked.n(0, NONE, NONE), Asked.n(0, 0, 0));
        x.hold(7, 1, 0);
        x.runs(0, 3, 2);
        x.of(0, 0, 1);
        x.of(0, 1, 0);
        x.of(1, 0, 0);
        x.of(1, 1, NONE);
    }

    private static void goesOnIfNone() {
        Asked x = ask("IFNONE: if a holds nothing, it goes on at b");
        x.program(0, i(5, 7, 2, 0), i(10, 0, 0, 0), i(10, 0, 0, 0));
        x.runs(0, 2, 2);
        x.node(0, 0);
        x.hold(7, 0, 0);
        x.runs(0, 2, 1);
    }

    private static void goesOnIfSame() {
        Asked x = ask("IFSAME: if a and b hold the same (nothing, too), at c");
        x.program(0, i(6, 0, 7, 2), i(10, 0, 0, 0), i(10, 0, 0, 0));
        x.runs(0, 2, 2);
        x.node(1, 0);
        x.node(1, 1);
        x.hold(0, 0, 0);
        x.runs(0, 2, 1);
        x.hold(7, 1, 0);
        x.runs(0, 2, 1);
        x.hold(7, 0, 0);
        x.runs(0, 2, 2);
        x.hold(0, NONE, 0);
        x.runs(0, 2, 1);
        x.clear(3);
        x.program(0, i(6, 3, 3, 2), i(10, 0, 0, 0), i(10, 0, 0, 0));
        x.runs(0, 2, 2);
    }

    private static void goesOnIfLess() {
        Asked x = ask("IFLESS: if the KEY of what a holds is less than that of what b holds, at c");
        x.program(0, i(7, 0, 7, 2), i(10, 0, 0, 0), i(10, 0, 0, 0));
        int[] keys = {LEAST, -1, 0, 1, MOST};
        for (int n = 0; n < 5; n++) {
            x.node(keys[n], n);
        }
        for (int a = 0; a < 5; a++) {
            x.hold(0, a, 0);
            for (int b = 0; b < 5; b++) {
                x.hold(7, b, 0);
                x.runs(0, 2, a < b ? 2 : 1);
            }
        }
    }

    private static void goesOnAtItself() {
        Asked x = ask("GOTO: at a, itself and those ahead of it too");
        x.program(0, i(8, 2, 0, 0), i(10, 0, 0, 0), i(8, 1, 0, 0));
        x.runs(0, 3, 1);
        x.clear(3);
        x.op(8, 0, 0, 0, 0);
        x.runs(2, 500, 0);
    }

    private static void keysBecomeAnyInt() {
        Asked x = ask("KEY: the KEY of what a holds becomes b");
        x.heap(Asked.n(3, 1, 1), Asked.n(4, NONE, NONE));
        x.hold(7, 1, 0);
        x.program(0, i(9, 0, LEAST, 0), i(9, 7, MOST, 0));
        x.runs(0, 2, 1);
        x.of(0, 2, LEAST);
        x.of(1, 2, MOST);
        x.of(0, 0, 1);
        x.of(0, 1, 1);
    }

    private static void endsAtEnd() {
        Asked x = ask("until END");
        x.program(0, i(10, 0, 0, 0), i(3, 0, 0, 0));
        x.runs(0, 1, 0);
    }

    private static void beginsAt0() {
        Asked x = ask("RUN, from instruction 0 on");
        x.program(0, i(0, 1, 1, 0), i(10, 0, 0, 0), i(0, 2, 2, 0));
        x.runs(0, 2, 1);
        x.runs(0, 2, 1);
        x.count(0, 2);
        x.held(1, 1);
        x.held(2, NONE);
    }

    private static void endsBehindTheLast() {
        Asked x = ask("behind the last one: ENDED");
        x.runs(0, 0, NONE);
        x.op(1, 0, 0, 0, 0);
        x.runs(0, 1, 0);
        x.op(1, 0, 0, 0, 1);
        x.runs(0, 2, 1);
    }

    private static void endsAtPlacesBehindTheLast() {
        Asked x = ask("goes on behind the last one: ENDED");
        for (int place = 1; place < 60; place += 29) {
            x.op(8, place, 0, 0, 0);
            x.runs(0, 1, 0);
            x.clear(1);
            x.op(5, 0, place, 0, 0);
            x.runs(0, 1, 0);
            x.clear(1);
            x.op(6, 0, 0, place, 0);
            x.runs(0, 1, 0);
            x.clear(1);
        }
        x.node(1, 0);
        x.node(2, 1);
        x.hold(0, 0, 0);
        x.hold(1, 1, 0);
        x.op(7, 0, 1, 59, 0);
        x.runs(0, 1, 0);
        x.op(10, 0, 0, 0, 1);
        x.runs(0, 1, 0);
    }

    private static void endsBehindPlace59() {
        Asked x = ask("the place 59");
        x.op(8, 59, 0, 0, 0);
        for (int n = 1; n < 59; n++) {
            x.op(3, 0, 0, 0, n);
        }
        x.runs(0, 1, 0);
        x.op(1, 0, 0, 0, 59);
        x.runs(0, 2, 59);
    }

    private static void linkOfNothing() {
        Asked x = ask("a link of nothing is asked for: NULL, 3");
        x.node(0, 0);
        x.hold(1, 0, 0);
        x.program(0, i(1, 6, 0, 0), i(3, 1, 0, 0), i(1, 1, 0, 0));
        x.runs(1, 2, 1);
        x.held(1, 0);
        x.clear(3);
        x.op(3, 0, 0, 1, 0);
        x.runs(1, 1, 0);
        x.held(0, NONE);
    }

    private static void putIntoNothing() {
        Asked x = ask("NULL; 4: a holds nothing");
        x.node(0, 0);
        x.hold(1, 0, 0);
        x.op(4, 0, 0, 1, 0);
        x.runs(1, 1, 0);
        x.of(0, 0, NONE);
        x.clear(1);
        x.op(4, 0, 1, 0, 0);
        x.runs(1, 1, 0);
        x.clear(1);
        x.op(4, 1, 1, 0, 0);
        x.runs(0, 1, 0);
    }

    private static void lessOfNothing() {
        Asked x = ask("NULL; 7: a, then b");
        x.program(0, i(7, 0, 1, 1));
        x.runs(1, 1, 0);
        x.node(0, 0);
        x.hold(0, 0, 0);
        x.runs(1, 1, 0);
        x.hold(1, 0, 0);
        x.runs(0, 1, 0);
        x.hold(0, NONE, 0);
        x.runs(1, 1, 0);
        x.clear(1);
        x.op(7, 0, 0, 1, 0);
        x.runs(1, 1, 0);
    }

    private static void keyOfNothing() {
        Asked x = ask("a KEY of nothing is asked for: NULL, 9");
        x.node(3, 0);
        x.program(0, i(9, 0, 5, 0), i(1, 0, 0, 0));
        x.runs(1, 1, 0);
        x.of(0, 2, 3);
        x.count(0, 1);
    }

    private static void nothingIsNoFault() {
        Asked x = ask("no link, KEY of nothing is asked for by 1, 2, 5, 6, nor by 4 of c");
        x.node(3, 0);
        x.hold(7, 0, 0);
        x.link(0, 0, 0, 0);
        x.program(0, i(1, 0, 0, 0), i(2, 1, 0, 0), i(5, 0, 3, 0), i(6, 0, 1, 4), i(6, 0, 7, 5), i(4, 7, 0, 0));
        x.runs(0, 6, 5);
        x.of(0, 0, NONE);
    }

    // A heap and a program that does just so many instructions: 20 for each of 24 nodes, one to
    // leave that loop, and behind it (from 20 on) as many as are over.
    private static Asked lasting(int steps, String words) {
        Asked x = ask(words);
        x.chain(24);
        x.program(0, i(5, 0, 20, 0), i(3, 0, 0, 0));
        for (int n = 2; n < 19; n++) {
            x.op(1, 7, 0, 0, n);
        }
        x.op(8, 0, 0, 0, 19);
        for (int n = 20; n < 20 + steps - 481; n++) {
            x.op(1, 7, 0, 0, n);
        }
        return x;
    }

    private static void spentAfter500() {
        lasting(499, "499 instructions, and none more").runs(0, 499, 37);
        lasting(500, "500 instructions are done and there is none more").runs(0, 500, 38);
        lasting(501, "500 instructions are done and there is one more").runs(2, 500, 38);
        lasting(520, "500 instructions are done and there are twenty more").runs(2, 500, 38);
        Asked x = ask("SPENT, in rounds of 3");
        x.program(0, i(1, 0, 0, 0), i(1, 0, 0, 0), i(8, 0, 0, 0));
        x.runs(2, 500, 1);
    }

    private static void spentAheadOfOtherFaults() {
        int[][] last = {i(10, 0, 0, 0), i(3, 6, 6, 0), i(0, 6, 6, 0), i(8, 59, 0, 0)};
        int[] outcomes = {0, 1, 3, 0};
        for (int n = 0; n < last.length; n++) {
            Asked x = lasting(499, "the 500th instruction is done, op " + last[n][0]);
            x.program(38, last[n]);
            x.runs(outcomes[n], 500, 38);
            Asked y = lasting(500, "the 501st instruction is one more, op " + last[n][0]);
            y.program(39, last[n]);
            y.runs(2, 500, 38);
            y.held(6, NONE);
        }
    }

    private static void roomFor24() {
        Asked x = ask("a 25th NODE (ROOM)");
        for (int n = 0; n < 23; n++) {
            x.node(0, n);
        }
        x.op(0, 1, 5, 0, 0);
        x.runs(0, 1, 0);
        x.held(1, 23);
        x.of(23, 2, 5);
        x.hold(1, 0, 0);
        x.runs(3, 1, 0);
        x.held(1, 0);
        x.count(0, 24);
        x.node(0, FULL);
        x.empty(24);
        x.runs(0, 1, 0);
        x.held(1, 0);
    }

    private static void whatWasDoneStays() {
        Asked x = ask("What was done stays");
        x.program(0, i(0, 1, 5, 0), i(4, 1, 1, 1), i(9, 1, 6, 0), i(5, 7, 5, 0), i(10, 0, 0, 0), i(3, 1, 7, 0));
        x.runs(1, 5, 5);
        x.held(1, 0);
        x.of(0, 1, 0);
        x.of(0, 2, 6);
        x.clear(6);
        x.program(0, i(0, 2, 7, 0), i(8, 1, 0, 0));
        x.runs(2, 500, 1);
        x.held(2, 1);
        x.clear(2);
        x.program(0, i(0, 3, 8, 0), i(8, 0, 0, 0));
        x.runs(3, 45, 0);
        x.held(3, 23);
        x.held(2, 1);
        x.count(0, 24);
    }

    private static void toldBeforeAnyRun() {
        Asked x = ask("told: none was done, as there was no RUN");
        x.told(0, 0);
        x.told(1, NONE);
        x.op(10, 0, 0, 0, 0);
        x.told(0, 0);
        x.told(1, NONE);
    }

    private static void toldOfARunOfNothing() {
        Asked x = ask("told: NONE: none was done, in the latest RUN");
        x.op(10, 0, 0, 0, 0);
        x.runs(0, 1, 0);
        x.clear(1);
        x.told(0, 1);
        x.told(1, 0);
        x.runs(0, 0, NONE);
    }

    private static void toldOfFaults() {
        Asked x = ask("told: that which failed included");
        x.program(0, i(1, 0, 0, 0), i(3, 0, 0, 0));
        x.runs(1, 2, 1);
        x.clear(2);
        x.program(0, i(0, 0, 0, 0), i(8, 0, 0, 0));
        x.runs(3, 49, 0);
    }

    private static void toldOfClaims() {
        Asked x = ask("told: Of the latest RUN (also one of a CLAIM)");
        x.program(0, i(5, 0, 59, 0), i(3, 0, 0, 0), i(8, 0, 0, 0));
        x.claim(0, 1, 0, 0, 0, false, 1);
        x.told(0, 1);
        x.told(1, 0);
        x.claim(0, 1, 2, 0, 0, false, 13);
        x.told(0, 7);
        x.told(1, 0);
        x.runs(0, 1, 0);
        x.claim(0, 1, 5, 0, 3, false, -10);
        x.told(0, 1);
        x.claim(0, 3, 5, 0, 6, false, -10);
        x.told(0, 500);
        x.told(1, 1);
    }

    private static void toldStays() {
        Asked x = ask("told: Of the latest RUN, when a CLAIM has none");
        x.program(0, i(1, 0, 0, 0), i(10, 0, 0, 0));
        x.runs(0, 2, 1);
        x.clear(2);
        x.claim(0, 1, 6, 0, 1, false, BAD);
        x.claim(8, 1, 1, 0, 1, false, BAD);
        x.claim(0, 3, 0, 0, 1, false, 0);
        x.told(0, 2);
        x.told(1, 1);
    }

    private static void toldOfAnotherWhat() {
        Asked x = ask("told: BAD: another what");
        x.op(10, 0, 0, 0, 0);
        x.run(0);
        for (int what : new int[] {LEAST, NONE, FULL, -2, -1, 2, 3, MOST}) {
            x.told(what, BAD);
        }
        x.told(0, 1);
        x.told(1, 0);
    }
}
