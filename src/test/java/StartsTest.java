import java.util.ArrayList;
import java.util.Comparator;
import java.util.List;

/**
 * Promise 14, each start for itself: for every start of every form up to size 5 a program that
 * breaks the claim at this very start, so that its number and its heap are both seen.
 */
public final class StartsTest {
    private static final int NONE = ShapeForms.NONE;
    private static final int LEAVE = 59;
    private static final Check CHECK = new Check();

    /** A start as the document words it: keys by node, and links by node, LINK 0 ahead of LINK 1. */
    private record Start(int[] keys, int[][] links) {
        String row() {
            StringBuilder text = new StringBuilder();
            for (int[] link : links) {
                text.append(link[0] == NONE ? '0' : '1').append(link[1] == NONE ? '0' : '1');
            }
            return text.toString();
        }
    }

    public static void main(String[] args) {
        for (int form = 1; form <= 5; form++) {
            List<Start> starts = starts(form);
            for (int number = 0; number < starts.size(); number++) {
                breaksAt(form, starts.get(number), number);
            }
        }
        CHECK.end();
    }

    private static List<Start> starts(int form) {
        List<Start> all = new ArrayList<>();
        for (int k = form == 3 ? 1 : 0; k <= 5; k++) {
            if (form == 4) {
                all.addAll(trees(k));
            } else {
                chains(form, new int[k], 0, all);
            }
        }
        return all;
    }

    private static void chains(int form, int[] keys, int at, List<Start> all) {
        if (at == keys.length) {
            all.add(new Start(keys.clone(), chainLinks(form, keys.length)));
            return;
        }
        for (int key = form == 5 && at > 0 ? keys[at - 1] : 0; key <= 2; key++) {
            keys[at] = key;
            chains(form, keys, at + 1, all);
        }
    }

    private static int[][] chainLinks(int form, int k) {
        int[][] links = new int[k][];
        for (int i = 0; i < k; i++) {
            int behind = i + 1 < k ? i + 1 : form == 3 ? 0 : NONE;
            links[i] = new int[] {behind, form == 2 && i > 0 ? i - 1 : NONE};
        }
        return links;
    }

    private static List<Start> trees(int k) {
        List<Start> trees = new ArrayList<>();
        for (int[][] links : shapes(k, 0)) {
            trees.add(new Start(new int[k], links));
        }
        trees.sort(Comparator.comparing(Start::row));
        return trees;
    }

    // All trees of k nodes whose first one has this number: a side for each way to part the rest.
    private static List<int[][]> shapes(int k, int first) {
        List<int[][]> shapes = new ArrayList<>();
        if (k == 0) {
            shapes.add(new int[0][]);
        }
        for (int below = 0; below < k; below++) {
            for (int[][] zero : shapes(below, first + 1)) {
                for (int[][] one : shapes(k - 1 - below, first + 1 + below)) {
                    int[][] links = new int[k][];
                    links[0] = new int[] {zero.length > 0 ? first + 1 : NONE,
                        one.length > 0 ? first + 1 + below : NONE};
                    System.arraycopy(zero, 0, links, 1, zero.length);
                    System.arraycopy(one, 0, links, 1 + below, one.length);
                    shapes.add(links);
                }
            }
        }
        return shapes;
    }

    private static void breaksAt(int form, Start start, int number) {
        ShapeForms x = new ShapeForms();
        write(x, form, start);
        String name = "form " + form + ", start " + number;
        CHECK.due(name + ": claim", x.claim(0, form, 5, 5, 6, false), -10 - number);
        CHECK.due(name + ": why()", x.why(), 1);
        int k = start.keys().length;
        CHECK.due(name + ": count(0)", x.count(0), k);
        CHECK.due(name + ": held(0)", x.held(0), k == 0 ? NONE : 0);
        for (int v = 1; v < 8; v++) {
            CHECK.due(name + ": held(" + v + ")", x.held(v), NONE);
        }
        for (int i = 0; i < k; i++) {
            CHECK.due(name + ": of(" + i + ", 0)", x.of(i, 0), start.links()[i][0]);
            CHECK.due(name + ": of(" + i + ", 1)", x.of(i, 1), start.links()[i][1]);
            CHECK.due(name + ": of(" + i + ", 2)", x.of(i, 2), start.keys()[i]);
        }
        if (k > 0) {
            smallerOnesHold(x, form, k, name);
        }
    }

    private static void smallerOnesHold(ShapeForms x, int form, int k, String name) {
        int many = x.claim(0, form, k - 1, 5, 6, false);
        CHECK.isTrue(name + " holds below its size", many >= 0);
        CHECK.due(name + ": why()", x.why(), 0);
        CHECK.due(name + ": count(0)", x.count(0), k);
    }

    // Variable i holds node i as it is come to; what is not as in the start leaves the program.
    private static void write(ShapeForms x, int form, Start start) {
        int k = start.keys().length;
        if (k == 0) {
            expectNone(x, 0);
        } else {
            x.op(5, 0, LEAVE, 0);
        }
        for (int i = 0; i < k; i++) {
            expectKey(x, i, start.keys()[i]);
            for (int f = 0; f < 2 && (f == 0 || form == 4); f++) {
                expectLink(x, i, f, start.links()[i][f]);
            }
        }
        x.op(1, 7, 0, 0);
        x.op(3, 7, 7, 0);
    }

    private static void expectNone(ShapeForms x, int variable) {
        x.op(5, variable, x.count(1) + 2, 0);
        x.op(8, LEAVE, 0, 0);
    }

    private static void expectKey(ShapeForms x, int node, int key) {
        x.op(0, 6, key, 0);
        x.op(7, node, 6, LEAVE);
        x.op(7, 6, node, LEAVE);
    }

    private static void expectLink(ShapeForms x, int node, int f, int to) {
        if (to == NONE) {
            x.op(3, 7, node, f);
            expectNone(x, 7);
        } else if (to > node) {
            x.op(3, to, node, f);
            x.op(5, to, LEAVE, 0);
            x.op(6, to, 0, LEAVE);
        } else {
            x.op(3, 7, node, f);
            x.op(6, 7, to, x.count(1) + 2);
            x.op(8, LEAVE, 0, 0);
        }
    }
}
