import java.util.ArrayList;
import java.util.Arrays;
import java.util.HashMap;
import java.util.IdentityHashMap;
import java.util.LinkedHashSet;
import java.util.List;
import java.util.Map;
import java.util.Set;

/**
 * The document once more, written as plainly as the Java library allows, for answers to compare
 * with. It goes other ways than the program: nodes are objects, heaps are copied, starts are listed.
 */
final class Model {
    private static final int BAD = -1;
    private static final int FULL = -3;
    private static final int NONE = -99999999;

    private static final class Node {
        int key;
        final Node[] links = new Node[2];

        Node(int key) {
            this.key = key;
        }
    }

    private static final class Heap {
        final List<Node> nodes = new ArrayList<>();
        final Node[] variables = new Node[8];

        Heap copy() {
            Heap copy = new Heap();
            Map<Node, Node> twins = new IdentityHashMap<>();
            for (Node node : nodes) {
                Node twin = new Node(node.key);
                twins.put(node, twin);
                copy.nodes.add(twin);
            }
            for (Node node : nodes) {
                twins.get(node).links[0] = twins.get(node.links[0]);
                twins.get(node).links[1] = twins.get(node.links[1]);
            }
            for (int v = 0; v < 8; v++) {
                copy.variables[v] = twins.get(variables[v]);
            }
            return copy;
        }

        int numberOf(Node node) {
            return node == null ? NONE : nodes.indexOf(node);
        }

        Set<Node> reached(Node from, boolean both) {
            Set<Node> found = new LinkedHashSet<>();
            visit(from, both, found);
            return found;
        }

        private static void visit(Node node, boolean both, Set<Node> found) {
            if (node != null && found.add(node)) {
                visit(node.links[0], both, found);
                if (both) {
                    visit(node.links[1], both, found);
                }
            }
        }
    }

    private static final class Stop extends RuntimeException {
        private static final long serialVersionUID = 1L;
        final int outcome;

        Stop(int outcome) {
            this.outcome = outcome;
        }
    }

    private final List<int[]> program = new ArrayList<>();
    private Heap heap = new Heap();
    private int done = 0;
    private int last = NONE;
    private int why = 0;

    int op(int op, int a, int b, int c) {
        boolean fine;
        switch (op) {
            case 0: case 1: case 9: fine = variable(a); break;
            case 2: fine = variable(a) && variable(b); break;
            case 3: fine = variable(a) && variable(b) && bit(c); break;
            case 4: fine = variable(a) && bit(b) && variable(c); break;
            case 5: fine = variable(a) && place(b); break;
            case 6: case 7: fine = variable(a) && variable(b) && place(c); break;
            case 8: fine = place(a); break;
            default: fine = op == 10;
        }
        if (!fine) {
            return BAD;
        }
        if (program.size() == 60) {
            return FULL;
        }
        program.add(new int[] {op, a, b, c});
        return program.size() - 1;
    }

    private static boolean variable(int v) {
        return 0 <= v && v <= 7;
    }

    private static boolean bit(int f) {
        return f == 0 || f == 1;
    }

    private static boolean place(int p) {
        return 0 <= p && p <= 59;
    }

    int clear() {
        int had = program.size();
        program.clear();
        return had;
    }

    int empty() {
        int had = heap.nodes.size();
        heap = new Heap();
        return had;
    }

    int node(int key) {
        if (heap.nodes.size() == 24) {
            return FULL;
        }
        heap.nodes.add(new Node(key));
        return heap.nodes.size() - 1;
    }

    private boolean isNode(int node) {
        return 0 <= node && node < heap.nodes.size();
    }

    private Node nodeAt(int node) {
        return node == NONE ? null : heap.nodes.get(node);
    }

    int link(int node, int f, int to) {
        if (!isNode(node) || !bit(f) || (to != NONE && !isNode(to))) {
            return BAD;
        }
        nodeAt(node).links[f] = nodeAt(to);
        return 0;
    }

    int hold(int variable, int node) {
        if (!variable(variable) || (node != NONE && !isNode(node))) {
            return BAD;
        }
        heap.variables[variable] = nodeAt(node);
        return 0;
    }

    int run() {
        return runOn(heap);
    }

    private int runOn(Heap on) {
        done = 0;
        last = NONE;
        int at = 0;
        try {
            while (at < program.size()) {
                if (done == 500) {
                    return 2;
                }
                done++;
                last = at;
                at = step(on, at);
            }
            return 0;
        } catch (Stop stop) {
            return stop.outcome;
        }
    }

    private static Node some(Node node) {
        if (node == null) {
            throw new Stop(1);
        }
        return node;
    }

    private int step(Heap on, int at) {
        int[] part = program.get(at);
        Node[] var = on.variables;
        int a = part[1];
        int b = part[2];
        int c = part[3];
        switch (part[0]) {
            case 0:
                if (on.nodes.size() == 24) {
                    throw new Stop(3);
                }
                var[a] = new Node(b);
                on.nodes.add(var[a]);
                return at + 1;
            case 1: var[a] = null; return at + 1;
            case 2: var[a] = var[b]; return at + 1;
            case 3: var[a] = some(var[b]).links[c]; return at + 1;
            case 4: some(var[a]).links[b] = var[c]; return at + 1;
            case 5: return var[a] == null ? b : at + 1;
            case 6: return var[a] == var[b] ? c : at + 1;
            case 7: return some(var[a]).key < some(var[b]).key ? c : at + 1;
            case 8: return a;
            case 9: some(var[a]).key = b; return at + 1;
            default: throw new Stop(0);
        }
    }

    int told(int what) {
        return what == 0 ? done : what == 1 ? last : BAD;
    }

    int held(int variable) {
        return variable(variable) ? heap.numberOf(heap.variables[variable]) : BAD;
    }

    int of(int node, int what) {
        if (!isNode(node) || what < 0 || what > 2) {
            return BAD;
        }
        return what == 2 ? nodeAt(node).key : heap.numberOf(nodeAt(node).links[what]);
    }

    int form(int variable, int form) {
        if (!variable(variable) || form < 0 || form > 6) {
            return BAD;
        }
        return has(heap, heap.variables[variable], form) ? 1 : 0;
    }

    private static boolean has(Heap on, Node first, int form) {
        switch (form) {
            case 0: return first == null;
            case 1: return list(first) != null;
            case 2: return list(first) != null && doubly(list(first));
            case 3: return ring(first);
            case 4: return tree(on, first);
            case 5: return list(first) != null && sorted(list(first));
            default: return true;
        }
    }

    // The list's nodes; null if no end is met in more steps than there are nodes.
    private static List<Node> list(Node first) {
        List<Node> list = new ArrayList<>();
        for (Node node = first; node != null; node = node.links[0]) {
            if (list.size() > 24) {
                return null;
            }
            list.add(node);
        }
        return list;
    }

    private static boolean doubly(List<Node> list) {
        for (int i = 0; i < list.size(); i++) {
            if (list.get(i).links[1] != (i == 0 ? null : list.get(i - 1))) {
                return false;
            }
        }
        return true;
    }

    private static boolean sorted(List<Node> list) {
        for (int i = 1; i < list.size(); i++) {
            if (list.get(i - 1).key > list.get(i).key) {
                return false;
            }
        }
        return true;
    }

    private static boolean ring(Node first) {
        Node node = first;
        for (int i = 0; i < 25 && node != null; i++) {
            node = node.links[0];
            if (node == first) {
                return node != null;
            }
        }
        return false;
    }

    private static boolean tree(Heap on, Node first) {
        Set<Node> reached = on.reached(first, true);
        for (Node node : reached) {
            int ways = 0;
            for (Node from : reached) {
                ways += (from.links[0] == node ? 1 : 0) + (from.links[1] == node ? 1 : 0);
            }
            if (ways > (node == first ? 0 : 1)) {
                return false;
            }
        }
        return true;
    }

    int size(int variable, boolean both) {
        return variable(variable) ? heap.reached(heap.variables[variable], both).size() : BAD;
    }

    int claim(int start, int form, int n, int end, int aim, boolean keys) {
        if (!variable(start) || !variable(end) || form < 1 || form > 5 || aim < 0 || aim > 6 || n < 0 || n > 5) {
            return BAD;
        }
        why = 0;
        List<Heap> starts = new ArrayList<>();
        for (int k = form == 3 ? 1 : 0; k <= n; k++) {
            starts.addAll(form == 4 ? trees(k) : chains(form, k));
        }
        for (int number = 0; number < starts.size(); number++) {
            Heap begun = starts.get(number);
            begun.variables[start] = begun.nodes.isEmpty() ? null : begun.nodes.get(0);
            why = broken(begun, begun.copy(), end, aim, keys);
            if (why != 0) {
                heap = begun;
                return -10 - number;
            }
        }
        return starts.size();
    }

    private int broken(Heap begun, Heap on, int end, int aim, boolean keys) {
        int outcome = runOn(on);
        if (outcome != 0) {
            return outcome;
        }
        if (!has(on, on.variables[end], aim)) {
            return 4;
        }
        Map<Integer, Integer> before = many(begun.nodes);
        return keys && !before.equals(many(on.reached(on.variables[end], aim == 4))) ? 5 : 0;
    }

    private static Map<Integer, Integer> many(Iterable<Node> nodes) {
        Map<Integer, Integer> many = new HashMap<>();
        for (Node node : nodes) {
            many.merge(node.key, 1, Integer::sum);
        }
        return many;
    }

    private static List<Heap> chains(int form, int k) {
        List<int[]> rows = new ArrayList<>(List.of(new int[0]));
        for (int i = 0; i < k; i++) {
            List<int[]> longer = new ArrayList<>();
            for (int[] row : rows) {
                for (int key = form == 5 && i > 0 ? row[i - 1] : 0; key < 3; key++) {
                    int[] more = Arrays.copyOf(row, i + 1);
                    more[i] = key;
                    longer.add(more);
                }
            }
            rows = longer;
        }
        List<Heap> heaps = new ArrayList<>();
        for (int[] row : rows) {
            heaps.add(chain(form, row));
        }
        return heaps;
    }

    private static Heap chain(int form, int[] keys) {
        Heap chain = new Heap();
        for (int key : keys) {
            Node node = new Node(key);
            if (!chain.nodes.isEmpty()) {
                Node ahead = chain.nodes.get(chain.nodes.size() - 1);
                ahead.links[0] = node;
                node.links[1] = form == 2 ? ahead : null;
            }
            chain.nodes.add(node);
        }
        if (form == 3) {
            chain.nodes.get(keys.length - 1).links[0] = chain.nodes.get(0);
        }
        return chain;
    }

    // Each tree as its row of 0 and 1, two for each node: the row's text is what it is sorted by.
    private static List<Heap> trees(int k) {
        List<String> rows = new ArrayList<>(rows(k));
        rows.sort(null);
        List<Heap> heaps = new ArrayList<>();
        for (String row : rows) {
            Heap tree = new Heap();
            if (k > 0) {
                grow(tree, row);
            }
            heaps.add(tree);
        }
        return heaps;
    }

    private static List<String> rows(int k) {
        if (k == 0) {
            return List.of("");
        }
        List<String> rows = new ArrayList<>();
        for (int below = 0; below < k; below++) {
            for (String zero : rows(below)) {
                for (String one : rows(k - 1 - below)) {
                    rows.add((zero.isEmpty() ? "0" : "1") + (one.isEmpty() ? "0" : "1") + zero + one);
                }
            }
        }
        return rows;
    }

    private static Node grow(Heap tree, String row) {
        int at = 2 * tree.nodes.size();
        Node node = new Node(0);
        tree.nodes.add(node);
        for (int f = 0; f < 2; f++) {
            node.links[f] = row.charAt(at + f) == '1' ? grow(tree, row) : null;
        }
        return node;
    }

    int why() {
        return why;
    }

    int count(int what) {
        return what == 0 ? heap.nodes.size() : what == 1 ? program.size() : BAD;
    }
}
