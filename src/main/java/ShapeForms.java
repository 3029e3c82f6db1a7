/**
 * Programs over a heap of nodes with two links, the forms that variables lead to, and claims
 * that are tried on all starts of a form up to a size.
 *
 * <p>All rows are made with the object and used again: no call makes an object.
 */
public final class ShapeForms {
    public static final int BAD = -1, FULL = -3, NONE = -99999999;

    private static final int NODES = 24;
    private static final int LINKS = 2;
    private static final int VARIABLES = 8;
    private static final int INSTRUCTIONS = 60;
    private static final int STEPS = 500;
    private static final int LARGEST_START = 5;
    private static final int START_KEYS = 3;

    private static final int FORM_NOTHING = 0;
    private static final int FORM_LIST = 1;
    private static final int FORM_DOUBLY = 2;
    private static final int FORM_RING = 3;
    private static final int FORM_TREE = 4;
    private static final int FORM_SORTED = 5;
    private static final int FORM_ANY = 6;

    // How a run ends. The same numbers tell how a claim breaks, where ENDED is: it did not.
    private static final int ENDED = 0;
    private static final int NULL = 1;
    private static final int SPENT = 2;
    private static final int ROOM = 3;
    private static final int BROKEN_FORM = 4;
    private static final int BROKEN_KEYS = 5;

    private static final int FIRST_BROKEN = -10;

    private final Program program;
    private final Heap heap;
    private final Starts starts;
    // A claim keeps a start beside the heap that its run changes: the start may have to be shown.
    private final Heap begun;
    private final Heap tried;
    private int broken;

    public ShapeForms() {
        program = new Program();
        heap = new Heap();
        starts = new Starts();
        begun = new Heap();
        tried = new Heap();
        broken = ENDED;
    }

    public int op(int op, int a, int b, int c) {
        if (!Program.isInstruction(op, a, b, c)) {
            return BAD;
        }
        return program.add(op, a, b, c);
    }

    public int clear() {
        return program.drop();
    }

    public int empty() {
        return heap.drop();
    }

    public int node(int key) {
        return heap.add(key);
    }

    public int link(int node, int f, int to) {
        if (!heap.isNode(node) || !isLink(f) || !heap.isNodeOrNone(to)) {
            return BAD;
        }
        heap.setTarget(node, f, to);
        return 0;
    }

    public int hold(int variable, int node) {
        if (!isVariable(variable) || !heap.isNodeOrNone(node)) {
            return BAD;
        }
        heap.setVariable(variable, node);
        return 0;
    }

    public int run() {
        return program.execute(heap);
    }

    public int told(int what) {
        switch (what) {
            case 0:
                return program.stepsDone();
            case 1:
                return program.lastStep();
            default:
                return BAD;
        }
    }

    public int held(int variable) {
        return isVariable(variable) ? heap.variable(variable) : BAD;
    }

    public int of(int node, int what) {
        if (!heap.isNode(node)) {
            return BAD;
        }
        if (isLink(what)) {
            return heap.target(node, what);
        }
        return what == 2 ? heap.key(node) : BAD;
    }

    public int form(int variable, int form) {
        if (!isVariable(variable) || !isForm(form)) {
            return BAD;
        }
        return heap.hasForm(variable, form) ? 1 : 0;
    }

    public int size(int variable, boolean both) {
        return isVariable(variable) ? heap.reach(variable, both) : BAD;
    }

    public int claim(int start, int form, int n, int end, int aim, boolean keys) {
        if (!isVariable(start) || !isVariable(end) || !isStartForm(form) || !isForm(aim)) {
            return BAD;
        }
        if (n < 0 || n > LARGEST_START) {
            return BAD;
        }
        broken = ENDED;
        int number = 0;
        for (int k = Starts.leastSize(form); k <= n; k++) {
            int rows = Starts.rows(form, k);
            for (int row = 0; row < rows; row++) {
                if (!starts.build(begun, start, form, k, row)) {
                    continue;
                }
                broken = tryStart(end, aim, keys);
                if (broken != ENDED) {
                    heap.become(begun);
                    return FIRST_BROKEN - number;
                }
                number++;
            }
        }
        return number;
    }

    public int why() {
        return broken;
    }

    public int count(int what) {
        switch (what) {
            case 0:
                return heap.nodes();
            case 1:
                return program.length();
            default:
                return BAD;
        }
    }

    private int tryStart(int end, int aim, boolean keys) {
        tried.become(begun);
        int outcome = program.execute(tried);
        if (outcome != ENDED) {
            return outcome;
        }
        if (!tried.hasForm(end, aim)) {
            return BROKEN_FORM;
        }
        if (keys && !tried.keepsKeys(end, aim == FORM_TREE, begun)) {
            return BROKEN_KEYS;
        }
        return ENDED;
    }

    private static boolean isVariable(int variable) {
        return variable >= 0 && variable < VARIABLES;
    }

    private static boolean isLink(int f) {
        return f >= 0 && f < LINKS;
    }

    private static boolean isForm(int form) {
        return form >= FORM_NOTHING && form <= FORM_ANY;
    }

    private static boolean isStartForm(int form) {
        return form >= FORM_LIST && form <= FORM_SORTED;
    }

    /** The nodes, and the variables that hold them; NONE stands for nothing in links and variables. */
    private static final class Heap {
        private final int[] keys;
        private final int[] targets;
        private final int[] variables;
        private int nodes;
        // What the latest reach came to, in that order; and marks that each search sets anew.
        private final int[] reached;
        private final boolean[] marked;

        Heap() {
            keys = new int[NODES];
            targets = new int[LINKS * NODES];
            variables = new int[VARIABLES];
            reached = new int[NODES];
            marked = new boolean[NODES];
            drop();
        }

        int drop() {
            int had = nodes;
            nodes = 0;
            for (int v = 0; v < VARIABLES; v++) {
                variables[v] = NONE;
            }
            return had;
        }

        void become(Heap other) {
            nodes = other.nodes;
            System.arraycopy(other.keys, 0, keys, 0, NODES);
            System.arraycopy(other.targets, 0, targets, 0, LINKS * NODES);
            System.arraycopy(other.variables, 0, variables, 0, VARIABLES);
        }

        int nodes() {
            return nodes;
        }

        boolean isNode(int node) {
            return node >= 0 && node < nodes;
        }

        boolean isNodeOrNone(int node) {
            return node == NONE || isNode(node);
        }

        int add(int key) {
            if (nodes >= NODES) {
                return FULL;
            }
            int node = nodes;
            nodes++;
            keys[node] = key;
            targets[LINKS * node] = NONE;
            targets[LINKS * node + 1] = NONE;
            return node;
        }

        int key(int node) {
            return isNode(node) ? keys[node] : 0;
        }

        void setKey(int node, int key) {
            if (isNode(node)) {
                keys[node] = key;
            }
        }

        int target(int node, int f) {
            return isNode(node) && isLink(f) ? targets[LINKS * node + f] : NONE;
        }

        void setTarget(int node, int f, int to) {
            if (isNode(node) && isLink(f)) {
                targets[LINKS * node + f] = to;
            }
        }

        int variable(int v) {
            return isVariable(v) ? variables[v] : NONE;
        }

        void setVariable(int v, int node) {
            if (isVariable(v)) {
                variables[v] = node;
            }
        }

        /** By LINK 0 alone the nodes come in the order of the chain: the forms count on that. */
        int reach(int v, boolean both) {
            clearMarks();
            int links = both ? LINKS : 1;
            int found = mark(variable(v), 0);
            for (int i = 0; i < found && i < NODES; i++) {
                for (int f = 0; f < links; f++) {
                    found = mark(target(reached[i], f), found);
                }
            }
            return found;
        }

        private int mark(int node, int found) {
            if (found < 0 || found >= NODES || !takeMark(node)) {
                return found;
            }
            reached[found] = node;
            return found + 1;
        }

        /** Whether it is a node without a mark; it has one from now on. */
        private boolean takeMark(int node) {
            if (!isNode(node) || marked[node]) {
                return false;
            }
            marked[node] = true;
            return true;
        }

        private void clearMarks() {
            for (int i = 0; i < NODES; i++) {
                marked[i] = false;
            }
        }

        boolean hasForm(int v, int form) {
            int found = reach(v, form == FORM_TREE);
            switch (form) {
                case FORM_NOTHING:
                    return found == 0;
                case FORM_LIST:
                    return isList(found);
                case FORM_DOUBLY:
                    return isList(found) && linksBack(found);
                case FORM_RING:
                    return isRing(found);
                case FORM_TREE:
                    return isTree(found);
                case FORM_SORTED:
                    return isList(found) && neverFalls(found);
                default:
                    return form == FORM_ANY;
            }
        }

        // A chain stops at its first node that leads to nothing or back into the chain, so the
        // last node's link alone tells a list, a ring and the rest apart.
        private int behindLast(int found) {
            return found > 0 && found <= NODES ? target(reached[found - 1], 0) : NONE;
        }

        private boolean isList(int found) {
            return behindLast(found) == NONE;
        }

        private boolean isRing(int found) {
            return found > 0 && behindLast(found) == reached[0];
        }

        private boolean linksBack(int found) {
            int ahead = NONE;
            for (int i = 0; i < found && i < NODES; i++) {
                if (target(reached[i], 1) != ahead) {
                    return false;
                }
                ahead = reached[i];
            }
            return true;
        }

        private boolean neverFalls(int found) {
            for (int i = 1; i < found && i < NODES; i++) {
                if (key(reached[i]) < key(reached[i - 1])) {
                    return false;
                }
            }
            return true;
        }

        private boolean isTree(int found) {
            clearMarks();
            // Marked from the outset, the first node may not be come to even once.
            if (found > 0) {
                takeMark(reached[0]);
            }
            for (int i = 0; i < found && i < NODES; i++) {
                for (int f = 0; f < LINKS; f++) {
                    int to = target(reached[i], f);
                    if (to != NONE && !takeMark(to)) {
                        return false;
                    }
                }
            }
            return true;
        }

        boolean keepsKeys(int v, boolean both, Heap start) {
            int found = reach(v, both);
            // With as many nodes as the start, no key can be over when none of the start's differs.
            if (found != start.nodes) {
                return false;
            }
            for (int i = 0; i < start.nodes; i++) {
                if (reachedWith(start.key(i), found) != start.nodesWith(start.key(i))) {
                    return false;
                }
            }
            return true;
        }

        private int reachedWith(int key, int found) {
            int many = 0;
            for (int i = 0; i < found && i < NODES; i++) {
                if (key(reached[i]) == key) {
                    many++;
                }
            }
            return many;
        }

        private int nodesWith(int key) {
            int many = 0;
            for (int i = 0; i < nodes; i++) {
                if (key(i) == key) {
                    many++;
                }
            }
            return many;
        }
    }

    /** The instructions, and what the latest run of them did. */
    private static final class Program {
        private static final int NEW = 0;
        private static final int LET_GO = 1;
        private static final int COPY = 2;
        private static final int GET = 3;
        private static final int PUT = 4;
        private static final int IFNONE = 5;
        private static final int IFSAME = 6;
        private static final int IFLESS = 7;
        private static final int GOTO = 8;
        private static final int KEY = 9;
        private static final int END = 10;

        // What a number of an instruction must be: any (a key, or not looked at), a variable,
        // a link, a place to go on.
        private static final int X = 0;
        private static final int V = 1;
        private static final int F = 2;
        private static final int P = 3;

        private static final int PARTS = 3;
        // For a, b, c, op by op.
        private static final int[] KINDS = {
            V, X, X,
            V, X, X,
            V, V, X,
            V, V, F,
            V, F, V,
            V, P, X,
            V, V, P,
            V, V, P,
            P, X, X,
            V, X, X,
            X, X, X,
        };

        private final int[] ops;
        private final int[] as;
        private final int[] bs;
        private final int[] cs;
        private int length;
        private int done;
        private int last;

        Program() {
            ops = new int[INSTRUCTIONS];
            as = new int[INSTRUCTIONS];
            bs = new int[INSTRUCTIONS];
            cs = new int[INSTRUCTIONS];
            length = 0;
            done = 0;
            last = NONE;
        }

        static boolean isInstruction(int op, int a, int b, int c) {
            if (op < NEW || op > END) {
                return false;
            }
            int parts = PARTS * op;
            return fits(KINDS[parts], a) && fits(KINDS[parts + 1], b) && fits(KINDS[parts + 2], c);
        }

        private static boolean fits(int kind, int number) {
            switch (kind) {
                case V:
                    return isVariable(number);
                case F:
                    return isLink(number);
                case P:
                    // Places that have no instruction yet are fine: going there ends a run.
                    return number >= 0 && number < INSTRUCTIONS;
                default:
                    return true;
            }
        }

        int add(int op, int a, int b, int c) {
            if (length >= INSTRUCTIONS) {
                return FULL;
            }
            int number = length;
            length++;
            ops[number] = op;
            as[number] = a;
            bs[number] = b;
            cs[number] = c;
            return number;
        }

        int drop() {
            int had = length;
            length = 0;
            return had;
        }

        int length() {
            return length;
        }

        int stepsDone() {
            return done;
        }

        int lastStep() {
            return last;
        }

        int execute(Heap heap) {
            done = 0;
            last = NONE;
            int at = 0;
            for (int i = 0; i < STEPS; i++) {
                if (!isInside(at)) {
                    return ENDED;
                }
                last = at;
                done++;
                at = step(at, heap);
                if (at < 0) {
                    return outcomeOf(at);
                }
            }
            return isInside(at) ? SPENT : ENDED;
        }

        private boolean isInside(int at) {
            return at >= 0 && at < length;
        }

        // A step answers the place to go on at; a stop is below 0, where no place is.
        private static int stop(int outcome) {
            return -1 - outcome;
        }

        private static int outcomeOf(int stop) {
            return -1 - stop;
        }

        private int step(int at, Heap heap) {
            if (!isInside(at)) {
                return stop(ENDED);
            }
            int a = as[at];
            int b = bs[at];
            int c = cs[at];
            int next = at + 1;
            switch (ops[at]) {
                case NEW:
                    return makeNode(heap, a, b, next);
                case LET_GO:
                    heap.setVariable(a, NONE);
                    return next;
                case COPY:
                    heap.setVariable(a, heap.variable(b));
                    return next;
                case GET:
                    return getLink(heap, a, b, c, next);
                case PUT:
                    return putLink(heap, a, b, c, next);
                case IFNONE:
                    return heap.variable(a) == NONE ? b : next;
                case IFSAME:
                    return heap.variable(a) == heap.variable(b) ? c : next;
                case IFLESS:
                    return branchIfLess(heap, a, b, c, next);
                case GOTO:
                    return a;
                case KEY:
                    return changeKey(heap, a, b, next);
                default:
                    return stop(ENDED);
            }
        }

        private static int makeNode(Heap heap, int v, int key, int next) {
            int node = heap.add(key);
            if (node == FULL) {
                return stop(ROOM);
            }
            heap.setVariable(v, node);
            return next;
        }

        private static int getLink(Heap heap, int v, int from, int f, int next) {
            int node = heap.variable(from);
            if (node == NONE) {
                return stop(NULL);
            }
            heap.setVariable(v, heap.target(node, f));
            return next;
        }

        private static int putLink(Heap heap, int v, int f, int from, int next) {
            int node = heap.variable(v);
            if (node == NONE) {
                return stop(NULL);
            }
            heap.setTarget(node, f, heap.variable(from));
            return next;
        }

        private static int branchIfLess(Heap heap, int v, int w, int to, int next) {
            int node = heap.variable(v);
            int other = heap.variable(w);
            if (node == NONE || other == NONE) {
                return stop(NULL);
            }
            return heap.key(node) < heap.key(other) ? to : next;
        }

        private static int changeKey(Heap heap, int v, int key, int next) {
            int node = heap.variable(v);
            if (node == NONE) {
                return stop(NULL);
            }
            heap.setKey(node, key);
            return next;
        }
    }

    /**
     * The starts of a claim. Each is told by its size and the number of its row, of keys or (a
     * tree's) of links; rows that make no start, as they fall or are no tree's, are passed over.
     */
    private static final class Starts {
        private static final int TREE_KEY = 0;

        // Links of a tree's nodes that wait for the node they lead to, the next one on top.
        private final int[] waiting;

        Starts() {
            waiting = new int[LINKS * LARGEST_START];
        }

        static int leastSize(int form) {
            return form == FORM_RING ? 1 : 0;
        }

        static int rows(int form, int k) {
            int choices = form == FORM_TREE ? 1 << LINKS : START_KEYS;
            int rows = 1;
            for (int i = 0; i < k; i++) {
                rows *= choices;
            }
            return rows;
        }

        /** Whether the row is one of the form's starts; the heap is that start only then. */
        boolean build(Heap heap, int v, int form, int k, int row) {
            heap.drop();
            boolean built = form == FORM_TREE ? buildTree(heap, k, row) : buildChain(heap, form, k, row);
            heap.setVariable(v, k > 0 ? 0 : NONE);
            return built;
        }

        private static boolean buildChain(Heap heap, int form, int k, int row) {
            // Node 0's key weighs most in the row's number, so that rows come in their order.
            int weight = rows(form, k);
            int rest = row;
            int least = 0;
            for (int i = 0; i < k; i++) {
                weight /= START_KEYS;
                int key = weight > 0 ? rest / weight : 0;
                rest -= key * weight;
                if (form == FORM_SORTED && key < least) {
                    return false;
                }
                least = key;
                heap.add(key);
            }
            linkChain(heap, form, k);
            return true;
        }

        private static void linkChain(Heap heap, int form, int k) {
            for (int i = 1; i < k; i++) {
                heap.setTarget(i - 1, 0, i);
                if (form == FORM_DOUBLY) {
                    heap.setTarget(i, 1, i - 1);
                }
            }
            if (form == FORM_RING) {
                heap.setTarget(k - 1, 0, 0);
            }
        }

        private boolean buildTree(Heap heap, int k, int row) {
            int open = 0;
            for (int i = 0; i < k; i++) {
                heap.add(TREE_KEY);
                if (i > 0) {
                    if (open <= 0 || open > waiting.length) {
                        return false;
                    }
                    open--;
                    int place = waiting[open];
                    heap.setTarget(place / LINKS, place % LINKS, i);
                }
                open = leaveWaiting(i, linksOf(row, k, i), open);
            }
            return open == 0;
        }

        // Node 0's links are the row's highest two bits, LINK 0's the higher one.
        private static int linksOf(int row, int k, int node) {
            return (row >> (LINKS * (k - 1 - node))) & 3;
        }

        private int leaveWaiting(int node, int links, int open) {
            // LINK 1 goes below LINK 0: all that is below LINK 0 is numbered ahead of it.
            int now = open;
            if ((links & 1) != 0) {
                now = pushWaiting(LINKS * node + 1, now);
            }
            if ((links & 2) != 0) {
                now = pushWaiting(LINKS * node, now);
            }
            return now;
        }

        private int pushWaiting(int place, int open) {
            if (open < 0 || open >= waiting.length) {
                return open;
            }
            waiting[open] = place;
            return open + 1;
        }
    }
}
