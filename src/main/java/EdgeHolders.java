import java.util.NoSuchElementException;

/** Edges that are held by one of their ends, so that nobody holds many. */
public final class EdgeHolders {
    public static final int NONE = -1;

    private static final int FEWEST_NODES = 2;
    private static final int MOST_NODES = 12;
    private static final int NODES_AT_FIRST = 6;
    private static final int MOST_EDGES = 40;
    private static final int MOST_CAPACITY = 40;
    private static final int CAPACITY_AT_FIRST = 3;
    private static final int MOST_BYTES = 100;
    private static final int GREATEST_BYTE = 127;
    private static final int MOST_SAVED = 4;

    // All sets of the most nodes, the empty one too.
    private static final int MOST_SETS = 4096;

    // Each relieving lessens the sum of the squares of the loads, which is at most 1600.
    private static final int MOST_RELIEVINGS = 1000000;

    private static final int SYNTAX_ERROR = -10;
    private static final int EDGE_DIGITS = 3;
    private static final int GREATEST_EDGE_IN_TEXT = 999;
    private static final int CAPACITY_DIGITS = 2;

    private static final int VALUES = 8;
    private static final int NODE_VALUES = 5;
    private static final int EDGE_VALUES = 4;
    private static final long DIGEST_AT_FIRST = 3779;
    private static final long DIGEST_FACTOR = 31;

    // All objects are made here once and used again: no call makes one.
    private final Graph graph = new Graph();
    private final Graph trial = new Graph();
    private final Search search = new Search();
    private final PartTable parts = new PartTable();
    private final OrderText text = new OrderText();
    private final History history = new History();

    public EdgeHolders() {
    }

    // ---- nodes and edges

    public int begin(int nodes) throws IllegalArgumentException {
        if (nodes < FEWEST_NODES || nodes > MOST_NODES) {
            throw new IllegalArgumentException("nodes is out of range");
        }
        int edges = graph.edges;
        history.save(graph);
        graph.restart(nodes);
        parts.forget();
        return edges;
    }

    public int add(int first, int second)
            throws IndexOutOfBoundsException, IllegalArgumentException, IllegalStateException {
        checkNode(first);
        checkNode(second);
        checkDifferent(first, second);
        if (graph.isFull()) {
            throw new IllegalStateException("there are 40 edges");
        }
        history.save(graph);
        parts.forget();
        return graph.join(first, second);
    }

    public int remove(int edge) throws NoSuchElementException {
        int slot = checkedSlot(edge);
        history.save(graph);
        parts.forget();
        return graph.cut(slot);
    }

    public int turn(int edge) throws NoSuchElementException {
        int slot = checkedSlot(edge);
        history.save(graph);
        return graph.flip(slot);
    }

    public int relieve(int node) throws IndexOutOfBoundsException, IllegalStateException {
        checkNode(node);
        search.visitFrom(graph, node);
        int lighter = search.firstLighter(graph);
        if (lighter == NONE) {
            throw new IllegalStateException("the node cannot be relieved");
        }
        history.save(graph);
        return search.flipPathTo(graph, lighter);
    }

    public int balance() {
        history.save(graph);
        return search.evenOut(graph);
    }

    public int setCapacity(int node, int capacity) throws IndexOutOfBoundsException, IllegalArgumentException {
        checkNode(node);
        if (capacity < 0 || capacity > MOST_CAPACITY) {
            throw new IllegalArgumentException("capacity is out of range");
        }
        int previous = graph.capacities.get(node);
        history.save(graph);
        graph.capacities.set(node, capacity);
        return previous;
    }

    // ---- values

    public int node(int node, int what) throws IndexOutOfBoundsException, IllegalArgumentException {
        checkNode(node);
        switch (what) {
            case 0:
                return graph.loads.get(node);
            case 1:
                return graph.edgesOf(node);
            case 2:
                return graph.capacities.get(node);
            case 3:
                return Integer.bitCount(graph.neighboursOf(node));
            case 4:
                search.visitFrom(graph, node);
                return search.visited;
            default:
                throw new IllegalArgumentException("what is out of range");
        }
    }

    public int edge(int edge, int what) throws NoSuchElementException, IllegalArgumentException {
        int slot = checkedSlot(edge);
        switch (what) {
            case 0:
                return graph.firsts.get(slot);
            case 1:
                return graph.seconds.get(slot);
            case 2:
                return graph.holders.get(slot);
            case 3:
                return graph.turnings.get(slot);
            default:
                throw new IllegalArgumentException("what is out of range");
        }
    }

    public int edgeAt(int index) throws IndexOutOfBoundsException {
        if (index < 0 || index >= graph.edges) {
            throw new IndexOutOfBoundsException("there are not so many edges");
        }
        return graph.numbers.get(index);
    }

    public int value(int what) throws IllegalArgumentException {
        switch (what) {
            case 0:
                return graph.nodes;
            case 1:
                return graph.edges;
            case 2:
                return graph.greatestLoad();
            case 3:
                return graph.leastLoad();
            case 4:
                return graph.squaresOfLoads();
            case 5:
                return graph.turned;
            case 6:
                return graph.nextNumber;
            case 7:
                return graph.overloadedNodes();
            default:
                throw new IllegalArgumentException("what is out of range");
        }
    }

    // ---- paths and parts

    public int path(int from, int to) throws IndexOutOfBoundsException {
        checkNode(from);
        checkNode(to);
        search.visitFrom(graph, from);
        return search.lengthTo(to);
    }

    public int step(int from, int to, int place) throws IndexOutOfBoundsException {
        checkNode(from);
        checkNode(to);
        search.visitFrom(graph, from);
        int slot = search.slotOnPathTo(to, place);
        if (slot == NONE) {
            throw new IndexOutOfBoundsException("the path has not so many edges");
        }
        return graph.numbers.get(slot);
    }

    public int inner(int part) throws IllegalArgumentException {
        if (part <= 0 || part >= 1 << graph.nodes) {
            throw new IllegalArgumentException("part is empty or has a node that there is not");
        }
        return graph.edgesWithin(part);
    }

    public int densest() {
        parts.learn(graph);
        return parts.densestPart;
    }

    public int least() {
        parts.learn(graph);
        return parts.leastLoad;
    }

    public int tooDense() {
        parts.learn(graph);
        return parts.mostOverfull(graph.capacities, graph.nodes);
    }

    // ---- what if

    public int leastWith(int first, int second) throws IndexOutOfBoundsException, IllegalArgumentException {
        checkNode(first);
        checkNode(second);
        checkDifferent(first, second);
        parts.learn(graph);
        return parts.leastLoadWith(1 << first | 1 << second, 1);
    }

    public int leastWithout(int edge) throws NoSuchElementException {
        int slot = checkedSlot(edge);
        parts.learn(graph);
        return parts.leastLoadWith(graph.endsOf(slot), -1);
    }

    public int critical() {
        parts.learn(graph);
        int slot = graph.firstSlotWithin(parts.commonOfForcing());
        return slot == NONE ? NONE : graph.numbers.get(slot);
    }

    public int turnsToBalance() {
        trial.copyFrom(graph);
        search.evenOut(trial);
        return trial.turned - graph.turned;
    }

    public int leastCapacity() {
        // No part is too dense for the same capacity everywhere from the greatest density, rounded up, on.
        parts.learn(graph);
        return parts.leastLoad;
    }

    public double density() {
        parts.learn(graph);
        int nodes = Integer.bitCount(parts.densestPart);
        if (nodes < 1) {
            return 0.0;
        }
        return (double) graph.edgesWithin(parts.densestPart) / (double) nodes;
    }

    // ---- text

    public int append(int value) throws IllegalArgumentException, IllegalStateException {
        if (value < 0 || value > GREATEST_BYTE) {
            throw new IllegalArgumentException("value is out of range");
        }
        if (text.length >= MOST_BYTES) {
            throw new IllegalStateException("the text has 100 bytes");
        }
        return text.put(value);
    }

    public int clearText() {
        return text.empty();
    }

    public int carryOut() {
        int wrong = text.findSyntaxError();
        if (wrong != NONE) {
            return SYNTAX_ERROR - wrong;
        }
        history.save(graph);
        parts.forget();
        text.rewind();
        int done = 0;
        while (done < MOST_BYTES && text.readOrder() && obeyOrder()) {
            done++;
        }
        return done;
    }

    // ---- state

    public int undo() throws IllegalStateException {
        if (history.saved == 0) {
            throw new IllegalStateException("there is no saved state");
        }
        history.restore(graph);
        parts.forget();
        return history.saved;
    }

    public long digest() {
        long hash = mix(DIGEST_AT_FIRST, text.length);
        for (int what = 0; what < VALUES; what++) {
            hash = mix(hash, value(what));
        }
        for (int node = 0; node < graph.nodes; node++) {
            for (int what = 0; what < NODE_VALUES; what++) {
                hash = mix(hash, node(node, what));
            }
        }
        for (int slot = 0; slot < graph.edges; slot++) {
            int number = graph.numbers.get(slot);
            hash = mix(hash, number);
            for (int what = 0; what < EDGE_VALUES; what++) {
                hash = mix(hash, edge(number, what));
            }
        }
        hash = mix(hash, densest());
        hash = mix(hash, least());
        hash = mix(hash, tooDense());
        return mix(hash, history.saved);
    }

    private static long mix(long hash, long next) {
        return DIGEST_FACTOR * hash + next;
    }

    private void checkNode(int node) {
        if (!graph.hasNode(node)) {
            throw new IndexOutOfBoundsException("there is no such node");
        }
    }

    private static void checkDifferent(int first, int second) {
        if (first == second) {
            throw new IllegalArgumentException("both nodes are the same");
        }
    }

    private int checkedSlot(int edge) {
        int slot = graph.slotOf(edge);
        if (slot == NONE) {
            throw new NoSuchElementException("there is no such edge");
        }
        return slot;
    }

    /** Carries out the order that was read last; false, without a change, if it would throw. */
    private boolean obeyOrder() {
        switch (text.kind) {
            case '+':
                return obeyAdding(text.firstNode, text.secondNode);
            case '-':
            case 't':
                return obeyForEdge(text.kind, graph.slotOf(text.number));
            case 'r':
                return graph.hasNode(text.firstNode) && search.relieveNode(graph, text.firstNode) > 0;
            case 'b':
                search.evenOut(graph);
                return true;
            case 'c':
                return obeyCapacity(text.firstNode, text.number);
            default:
                return false;
        }
    }

    private boolean obeyAdding(int first, int second) {
        if (!graph.hasNode(first) || !graph.hasNode(second) || first == second || graph.isFull()) {
            return false;
        }
        graph.join(first, second);
        return true;
    }

    private boolean obeyForEdge(int kind, int slot) {
        if (slot == NONE) {
            return false;
        }
        if (kind == '-') {
            graph.cut(slot);
        } else {
            graph.flip(slot);
        }
        return true;
    }

    private boolean obeyCapacity(int node, int capacity) {
        if (!graph.hasNode(node)) {
            return false;
        }
        graph.capacities.set(node, capacity);
        return true;
    }

    /** Numbers by their index. Outside it reads 0 and keeps nothing, so that no index ever throws. */
    private static final class Row {
        private final int[] cells;

        Row(int length) {
            cells = new int[length < 0 ? 0 : length];
        }

        int get(int index) {
            return index >= 0 && index < cells.length ? cells[index] : 0;
        }

        void set(int index, int number) {
            if (index >= 0 && index < cells.length) {
                cells[index] = number;
            }
        }

        void increase(int index, int by) {
            if (index >= 0 && index < cells.length) {
                cells[index] += by;
            }
        }

        void fill(int number) {
            for (int index = 0; index < cells.length; index++) {
                cells[index] = number;
            }
        }

        void copyFrom(Row other) {
            for (int index = 0; index < cells.length && index < other.cells.length; index++) {
                cells[index] = other.cells[index];
            }
        }

        void closeGap(int gap) {
            for (int index = gap < 0 ? 0 : gap; index < cells.length - 1; index++) {
                cells[index] = cells[index + 1];
            }
        }
    }

    /** The nodes and the edges: all that is saved. The edges stand in slots, in ascending order of their numbers. */
    private static final class Graph {
        private final Row numbers = new Row(MOST_EDGES);
        private final Row firsts = new Row(MOST_EDGES);
        private final Row seconds = new Row(MOST_EDGES);
        private final Row holders = new Row(MOST_EDGES);
        private final Row turnings = new Row(MOST_EDGES);
        private final Row loads = new Row(MOST_NODES);
        private final Row capacities = new Row(MOST_NODES);
        private int nodes;
        private int edges;
        private int nextNumber;
        private int turned;

        Graph() {
            restart(NODES_AT_FIRST);
        }

        void restart(int newNodes) {
            nodes = newNodes;
            edges = 0;
            nextNumber = 0;
            turned = 0;
            loads.fill(0);
            capacities.fill(CAPACITY_AT_FIRST);
        }

        void copyFrom(Graph other) {
            numbers.copyFrom(other.numbers);
            firsts.copyFrom(other.firsts);
            seconds.copyFrom(other.seconds);
            holders.copyFrom(other.holders);
            turnings.copyFrom(other.turnings);
            loads.copyFrom(other.loads);
            capacities.copyFrom(other.capacities);
            nodes = other.nodes;
            edges = other.edges;
            nextNumber = other.nextNumber;
            turned = other.turned;
        }

        boolean hasNode(int node) {
            return node >= 0 && node < nodes;
        }

        boolean isFull() {
            return edges >= MOST_EDGES;
        }

        int slotOf(int number) {
            for (int slot = 0; slot < edges; slot++) {
                if (numbers.get(slot) == number) {
                    return slot;
                }
            }
            return NONE;
        }

        int join(int first, int second) {
            int slot = edges;
            int number = nextNumber;
            int holder = loads.get(second) < loads.get(first) ? second : first;
            numbers.set(slot, number);
            firsts.set(slot, first);
            seconds.set(slot, second);
            holders.set(slot, holder);
            turnings.set(slot, 0);
            loads.increase(holder, 1);
            edges++;
            nextNumber++;
            return number;
        }

        int cut(int slot) {
            int holder = holders.get(slot);
            loads.increase(holder, -1);
            numbers.closeGap(slot);
            firsts.closeGap(slot);
            seconds.closeGap(slot);
            holders.closeGap(slot);
            turnings.closeGap(slot);
            edges--;
            return holder;
        }

        int flip(int slot) {
            int before = holders.get(slot);
            int holder = firsts.get(slot) + seconds.get(slot) - before;
            loads.increase(before, -1);
            loads.increase(holder, 1);
            holders.set(slot, holder);
            turnings.increase(slot, 1);
            turned++;
            return holder;
        }

        int endNotHolding(int slot) {
            return firsts.get(slot) + seconds.get(slot) - holders.get(slot);
        }

        int endsOf(int slot) {
            return 1 << firsts.get(slot) | 1 << seconds.get(slot);
        }

        int edgesOf(int node) {
            int count = 0;
            for (int slot = 0; slot < edges; slot++) {
                if ((endsOf(slot) & 1 << node) != 0) {
                    count++;
                }
            }
            return count;
        }

        int neighboursOf(int node) {
            int set = 0;
            for (int slot = 0; slot < edges; slot++) {
                if ((endsOf(slot) & 1 << node) != 0) {
                    set |= endsOf(slot);
                }
            }
            return set & ~(1 << node);
        }

        /** Puts into the row how many edges join the node with each node. */
        void countJoining(int node, Row counts) {
            counts.fill(0);
            for (int slot = 0; slot < edges; slot++) {
                if (firsts.get(slot) == node) {
                    counts.increase(seconds.get(slot), 1);
                } else if (seconds.get(slot) == node) {
                    counts.increase(firsts.get(slot), 1);
                }
            }
        }

        int edgesWithin(int part) {
            int count = 0;
            for (int slot = 0; slot < edges; slot++) {
                if ((endsOf(slot) & ~part) == 0) {
                    count++;
                }
            }
            return count;
        }

        int firstSlotWithin(int part) {
            for (int slot = 0; slot < edges; slot++) {
                if ((endsOf(slot) & ~part) == 0) {
                    return slot;
                }
            }
            return NONE;
        }

        int greatestLoad() {
            int greatest = 0;
            for (int node = 0; node < nodes; node++) {
                greatest = Math.max(greatest, loads.get(node));
            }
            return greatest;
        }

        int leastLoad() {
            int least = MOST_EDGES;
            for (int node = 0; node < nodes; node++) {
                least = Math.min(least, loads.get(node));
            }
            return least;
        }

        int squaresOfLoads() {
            int sum = 0;
            for (int node = 0; node < nodes; node++) {
                sum += loads.get(node) * loads.get(node);
            }
            return sum;
        }

        int overloadedNodes() {
            int count = 0;
            for (int node = 0; node < nodes; node++) {
                if (loads.get(node) > capacities.get(node)) {
                    count++;
                }
            }
            return count;
        }
    }

    /** The nodes that are visited from a node on, and the paths to them. */
    private static final class Search {
        private final Row order = new Row(MOST_NODES);
        private final Row slotTo = new Row(MOST_NODES);
        private final Row nodeBefore = new Row(MOST_NODES);
        private int start;
        private int count;
        private int visited;

        void visitFrom(Graph graph, int from) {
            start = from;
            count = 0;
            visited = 0;
            visit(from, NONE, NONE);
            for (int place = 0; place < count && place < MOST_NODES; place++) {
                int holder = order.get(place);
                for (int slot = 0; slot < graph.edges; slot++) {
                    if (graph.holders.get(slot) == holder) {
                        visit(graph.endNotHolding(slot), slot, holder);
                    }
                }
            }
        }

        private void visit(int node, int slot, int before) {
            if (!isVisited(node)) {
                visited |= 1 << node;
                order.set(count, node);
                slotTo.set(node, slot);
                nodeBefore.set(node, before);
                count++;
            }
        }

        private boolean isVisited(int node) {
            return (visited & 1 << node) != 0;
        }

        int lengthTo(int to) {
            if (!isVisited(to)) {
                return NONE;
            }
            int length = 0;
            for (int node = to; node != start && length < MOST_NODES; node = nodeBefore.get(node)) {
                length++;
            }
            return length;
        }

        int slotOnPathTo(int to, int place) {
            int length = lengthTo(to);
            if (place < 0 || place >= length) {
                return NONE;
            }
            int node = to;
            for (int later = length - 1; later > place; later--) {
                node = nodeBefore.get(node);
            }
            return slotTo.get(node);
        }

        int firstLighter(Graph graph) {
            int enough = graph.loads.get(start) - 2;
            for (int place = 0; place < count; place++) {
                if (graph.loads.get(order.get(place)) <= enough) {
                    return order.get(place);
                }
            }
            return NONE;
        }

        int flipPathTo(Graph graph, int to) {
            int length = lengthTo(to);
            int node = to;
            for (int place = 0; place < length; place++) {
                graph.flip(slotTo.get(node));
                node = nodeBefore.get(node);
            }
            return length;
        }

        /** Returns how many edges are turned: none if the node cannot be relieved. */
        int relieveNode(Graph graph, int node) {
            visitFrom(graph, node);
            int lighter = firstLighter(graph);
            return lighter == NONE ? 0 : flipPathTo(graph, lighter);
        }

        /** Balances, and returns how many nodes are relieved. */
        int evenOut(Graph graph) {
            int relieved = 0;
            int greatest = graph.greatestLoad();
            int node = 0;
            while (node < graph.nodes && relieved < MOST_RELIEVINGS) {
                if (graph.loads.get(node) == greatest && relieveNode(graph, node) > 0) {
                    relieved++;
                    greatest = graph.greatestLoad();
                    node = 0;
                } else {
                    node++;
                }
            }
            return relieved;
        }
    }

    /** How many inner edges each part has, and what follows from it. It is learned anew when the edges change. */
    private static final class PartTable {
        private final int[] innerEdges = new int[MOST_SETS];
        private final int[] capacitySums = new int[MOST_SETS];
        private final Row joining = new Row(MOST_NODES);
        private int sets;
        private int densestPart;
        private int leastLoad;
        private boolean known;

        void forget() {
            known = false;
        }

        void learn(Graph graph) {
            if (known) {
                return;
            }
            innerEdges[0] = 0;
            sets = 1;
            for (int node = 0; node < graph.nodes && sets * 2 <= MOST_SETS; node++) {
                graph.countJoining(node, joining);
                addSetsWith(node);
            }
            densestPart = densestWith(0, 0);
            leastLoad = roundedUpDensity(densestPart, 0, 0);
            known = true;
        }

        /** A set with the next node has the inner edges without it, and those that join it with the others. */
        private void addSetsWith(int node) {
            writeSums(innerEdges, sets, joining, node);
            for (int set = 0; set < sets && sets + set < innerEdges.length; set++) {
                innerEdges[sets + set] += innerEdges[set];
            }
            sets = sets * 2;
        }

        /** Writes, from an index on, for each set of the first nodes the sum of their weights. */
        private static void writeSums(int[] row, int from, Row weights, int nodes) {
            if (from < 0 || from >= row.length) {
                return;
            }
            row[from] = 0;
            int written = 1;
            for (int node = 0; node < nodes && node < MOST_NODES; node++) {
                int weight = weights.get(node);
                for (int set = 0; set < written && from + written + set < row.length; set++) {
                    row[from + written + set] = row[from + set] + weight;
                }
                written = written * 2;
            }
        }

        /** The inner edges of the part if there were so many more between the nodes of the pair. */
        private int innerWith(int part, int pair, int more) {
            if (part < 0 || part >= innerEdges.length) {
                return 0;
            }
            return (pair & ~part) == 0 ? innerEdges[part] + more : innerEdges[part];
        }

        /** The densest part if there were so many edges more between the nodes of the pair. */
        private int densestWith(int pair, int more) {
            int best = 0;
            int bestInner = 0;
            int bestNodes = 0;
            for (int part = 1; part < sets; part++) {
                int inner = innerWith(part, pair, more);
                int nodes = Integer.bitCount(part);
                int ahead = inner * bestNodes - bestInner * nodes;
                if (best == 0 || ahead > 0 || ahead == 0 && nodes > bestNodes) {
                    best = part;
                    bestInner = inner;
                    bestNodes = nodes;
                }
            }
            return best;
        }

        /** The least greatest load if there were so many edges more between the nodes of the pair. */
        int leastLoadWith(int pair, int more) {
            return roundedUpDensity(densestWith(pair, more), pair, more);
        }

        private int roundedUpDensity(int part, int pair, int more) {
            int nodes = Integer.bitCount(part);
            return nodes < 1 ? 0 : (innerWith(part, pair, more) + nodes - 1) / nodes;
        }

        /**
         * A part forces the least load if it has more inner edges than a lesser load allows. One edge less lessens
         * the load if it lies within all these parts, and each has just one inner edge too many. Returns the nodes
         * in which such an edge lies, or no nodes.
         */
        int commonOfForcing() {
            int common = sets - 1;
            for (int part = 1; part < sets && part < innerEdges.length; part++) {
                int tooMany = innerEdges[part] - (leastLoad - 1) * Integer.bitCount(part);
                if (tooMany > 1) {
                    return 0;
                }
                if (tooMany == 1) {
                    common &= part;
                }
            }
            return common;
        }

        int mostOverfull(Row capacities, int nodes) {
            writeSums(capacitySums, 0, capacities, nodes);
            int found = NONE;
            int most = 0;
            for (int part = 1; part < sets && part < innerEdges.length && part < capacitySums.length; part++) {
                int tooMany = innerEdges[part] - capacitySums[part];
                if (tooMany > most) {
                    most = tooMany;
                    found = part;
                }
            }
            return found;
        }
    }

    /** The text, and the order that was read last: its kind is its first byte. */
    private static final class OrderText {
        private final Row bytes = new Row(MOST_BYTES);
        private int length;
        private int place;
        private int wrong = NONE;
        private int kind;
        private int firstNode;
        private int secondNode;
        private int number;

        int put(int value) {
            if (length < MOST_BYTES) {
                bytes.set(length, value);
                length++;
            }
            return length;
        }

        int empty() {
            int before = length;
            length = 0;
            return before;
        }

        void rewind() {
            place = 0;
            wrong = NONE;
        }

        /** Returns the syntax error position, or NONE. */
        int findSyntaxError() {
            rewind();
            boolean more = true;
            for (int orders = 0; orders < MOST_BYTES && more; orders++) {
                more = readOrder();
            }
            return wrong;
        }

        /** Reads an order; false at the end of the text and at a syntax error. */
        boolean readOrder() {
            if (place >= length) {
                return false;
            }
            kind = current();
            switch (kind) {
                case '+':
                    readSign('+');
                    firstNode = readNode();
                    secondNode = readNode();
                    break;
                case '-':
                case 't':
                    readSign(kind);
                    number = readNumber(EDGE_DIGITS, GREATEST_EDGE_IN_TEXT);
                    break;
                case 'r':
                    readSign('r');
                    firstNode = readNode();
                    break;
                case 'b':
                    readSign('b');
                    break;
                case 'c':
                    readSign('c');
                    firstNode = readNode();
                    readSign('=');
                    number = readNumber(CAPACITY_DIGITS, MOST_CAPACITY);
                    break;
                default:
                    noteWrong(place);
                    break;
            }
            readSign(';');
            return wrong == NONE;
        }

        private int current() {
            return place < length ? bytes.get(place) : NONE;
        }

        /** Only the first error counts; nothing is read behind it. */
        private void noteWrong(int position) {
            if (wrong == NONE) {
                wrong = position;
            }
        }

        private void readSign(int sign) {
            if (wrong == NONE && current() == sign) {
                place++;
            } else {
                noteWrong(place);
            }
        }

        private int readNode() {
            int node = current() - 'a';
            if (wrong == NONE && node >= 0 && node < MOST_NODES) {
                place++;
                return node;
            }
            noteWrong(place);
            return NONE;
        }

        private int readNumber(int mostDigits, int greatest) {
            int start = place;
            int read = 0;
            for (int digits = 0; digits < mostDigits && wrong == NONE && isAtDigit(); digits++) {
                read = read * 10 + current() - '0';
                place++;
            }
            if (place == start || isAtDigit()) {
                noteWrong(place);
            } else if (read > greatest) {
                noteWrong(start);
            }
            return read;
        }

        private boolean isAtDigit() {
            return current() >= '0' && current() <= '9';
        }
    }

    /** The saved states, in a ring: the oldest one makes room for the newest. */
    private static final class History {
        private final Graph[] states = new Graph[MOST_SAVED];
        private int next;
        private int saved;

        History() {
            for (int index = 0; index < states.length; index++) {
                states[index] = new Graph();
            }
        }

        void save(Graph graph) {
            if (next < 0 || next >= states.length || states[next] == null) {
                return;
            }
            states[next].copyFrom(graph);
            next = next + 1 < MOST_SAVED ? next + 1 : 0;
            saved = Math.min(saved + 1, MOST_SAVED);
        }

        void restore(Graph graph) {
            int newest = next > 0 ? next - 1 : MOST_SAVED - 1;
            if (saved < 1 || newest >= states.length || states[newest] == null) {
                return;
            }
            graph.copyFrom(states[newest]);
            next = newest;
            saved--;
        }
    }
}
