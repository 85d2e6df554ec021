/** Promises 13 to 18: path, step, inner, densest, least, tooDense. */
public final class PathsAndPartsTest {
    private static final Check check = new Check();

    public static void main(String[] args) {
        Cases.run(PathsAndPartsTest.class, check, 13, 18);
        check.end();
    }

    @Says({
        "Returns the number of edges of the path from a node to another one.",
        "Returns the number of edges; 0 if both are the same; NONE if there is no path.",
        "Throws `IndexOutOfBoundsException` if there is no such node"})
    static void promise13_path_ofSomeEdges() {
        EdgeHolders x = Check.withEdges(6, "ab", "bc", "cd", "da");
        check.dueRow("holders", Check.row(0, 1, 2, 3), Check.edgeValues(x, 2));
        check.due("one edge", 1, x.path(0, 1));
        check.due("two edges", 2, x.path(0, 2));
        check.due("three edges", 3, x.path(0, 3));
        check.due("round", 2, x.path(2, 0));
        check.due("to itself", 0, x.path(3, 3));
        check.due("to itself without edges", 0, x.path(5, 5));
        check.due("no path", EdgeHolders.NONE, x.path(0, 5));
        check.due("no path from a node without edges", EdgeHolders.NONE, x.path(5, 0));
        x.turn(0);
        check.due("against the holders there is no path", EdgeHolders.NONE, x.path(0, 2));
        check.due("from the holder on", 1, x.path(1, 0));
        for (int node : new int[] {6, -1, Integer.MAX_VALUE, Integer.MIN_VALUE}) {
            check.dueThrow("path from " + node, x, Check.INDEX, () -> x.path(node, 0));
            check.dueThrow("path to " + node, x, Check.INDEX, () -> x.path(0, node));
            check.dueThrow("path from and to " + node, x, Check.INDEX, () -> x.path(node, node));
        }
    }

    @Says({
        "A path from a node u to another node v is a row of edges: the first one is held by u, each edge is held by one node of the path and its other end is the next node of the path, which holds the next edge, and so on; the other end of the last edge is v.",
        "A path is found like this: nodes are visited from u on; from a visited node, its edges are looked at in ascending order of the numbers; the other end of an edge that it holds is visited by this edge if it has not been visited yet"})
    static void promise13_path_isARowOfHeldEdges() {
        for (int graph = 0; graph < 729; graph += 7) {
            dueRowsOfHeldEdges(Scenes.small(graph));
            EdgeHolders turned = Scenes.small(graph);
            for (int index = graph % 2; index < turned.value(1); index += 2) {
                turned.turn(turned.edgeAt(index));
            }
            dueRowsOfHeldEdges(turned);
        }
    }

    /** A path leads from holder to holder, and there is one to each node that is visited, and to no other. */
    private static void dueRowsOfHeldEdges(EdgeHolders x) {
        for (int pair = 0; pair < 16; pair++) {
            int from = pair / 4;
            int to = pair % 4;
            int length = x.path(from, to);
            check.due("there is a path to the visited", x.node(from, 4) >> to & 1, length == EdgeHolders.NONE ? 0 : 1);
            int node = from;
            for (int place = 0; place < length; place++) {
                int edge = x.step(from, to, place);
                check.due("the holder of the edge at " + place, node, x.edge(edge, 2));
                node = x.edge(edge, 0) + x.edge(edge, 1) - node;
            }
            check.due("the other end of the last edge", length == EdgeHolders.NONE ? from : to, node);
        }
    }

    @Says("from a visited node, its edges are looked at in ascending order of the numbers")
    static void promise14_step_ofSeveralEdges() {
        EdgeHolders x = Check.withEdges(3, "ab", "ab", "ab", "ab");
        check.dueRow("holders", Check.row(0, 1, 0, 1), Check.edgeValues(x, 2));
        check.due("the lowest of several edges", 0, x.step(0, 1, 0));
        check.due("the lowest of several edges back", 1, x.step(1, 0, 0));
        x.turn(0);
        check.due("the lowest one that is held", 2, x.step(0, 1, 0));
        check.due("the lowest one back", 0, x.step(1, 0, 0));
    }

    @Says("nodes are looked at in the order in which they were visited. The path to v goes by the edges by which the nodes were visited.")
    static void promise14_step_inTheOrderOfVisiting() {
        // a holds the edges to c (0) and b (1); both hold one to d: c was visited first, so d is visited from c
        EdgeHolders x = Check.withEdges(6, "ac", "ab", "bd", "cd");
        x.turn(1);
        x.turn(2);
        x.turn(2);
        x.turn(1);
        hold(x, 0, 0);
        hold(x, 1, 0);
        hold(x, 2, 1);
        hold(x, 3, 2);
        check.due("two edges", 2, x.path(0, 3));
        check.due("first to c", 0, x.step(0, 3, 0));
        check.due("from c, though its edge is the higher one", 3, x.step(0, 3, 1));
        // a longer path by lower numbers is not taken
        EdgeHolders y = Check.withEdges(4, "ab", "bc", "cd", "ad");
        hold(y, 0, 0);
        hold(y, 1, 1);
        hold(y, 2, 2);
        hold(y, 3, 0);
        check.due("the short one", 1, y.path(0, 3));
        check.due("its edge", 3, y.step(0, 3, 0));
    }

    private static void hold(EdgeHolders x, int edge, int node) {
        if (x.edge(edge, 2) != node) {
            x.turn(edge);
        }
    }

    @Says({
        "Returns an edge of the path from a node to another one.",
        "0 for the edge that is held by from, and so on",
        "Returns its number.",
        "Throws `IndexOutOfBoundsException` if there is no such node, or the path has not so many edges (or there is none)"})
    static void promise14_step_eachPlace() {
        EdgeHolders x = Check.withEdges(6, "ab", "bc", "cd");
        x.remove(0);
        x.add(0, 1);
        check.due("the path", 3, x.path(0, 3));
        check.dueRow("its edges", Check.row(3, 1, 2), Check.row(x.step(0, 3, 0), x.step(0, 3, 1), x.step(0, 3, 2)));
        check.due("a shorter path", 1, x.step(0, 2, 1));
        check.dueThrow("a step too many", x, Check.INDEX, () -> x.step(0, 3, 3));
        check.dueThrow("a step before the first", x, Check.INDEX, () -> x.step(0, 3, -1));
        check.dueThrow("far before", x, Check.INDEX, () -> x.step(0, 3, Integer.MIN_VALUE));
        check.dueThrow("far behind", x, Check.INDEX, () -> x.step(0, 3, Integer.MAX_VALUE));
        check.dueThrow("no step to itself", x, Check.INDEX, () -> x.step(1, 1, 0));
        check.dueThrow("no path", x, Check.INDEX, () -> x.step(0, 5, 0));
        check.dueThrow("no path, and before the first", x, Check.INDEX, () -> x.step(0, 5, -1));
        check.dueThrow("no such node from", x, Check.INDEX, () -> x.step(6, 0, 0));
        check.dueThrow("no such node to", x, Check.INDEX, () -> x.step(0, 6, 0));
        check.dueThrow("a negative node", x, Check.INDEX, () -> x.step(-1, 0, 0));
        for (int node : new int[] {32, 33, -31, -32, Integer.MAX_VALUE, Integer.MIN_VALUE}) {
            check.dueThrow("step from " + node, x, Check.INDEX, () -> x.step(node, 1, 0));
            check.dueThrow("step to " + node, x, Check.INDEX, () -> x.step(0, node, 0));
            check.dueThrow("step from and to " + node, x, Check.INDEX, () -> x.step(node, node, 0));
        }
    }

    @Says({
        "Returns the number of inner edges of a part.",
        "Returns their number.",
        "A part is a set of one or more nodes, told as a number (bit n for the node n). Its inner edges are those with both ends in it.",
        "Throws `IllegalArgumentException` if part is empty or has a node that there is not"})
    static void promise15_inner_eachPart() {
        EdgeHolders x = Check.withEdges(4, "ab", "ba", "bc", "cd", "ad");
        int[] due = {0, 0, 2, 0, 0, 1, 3, 0, 1, 0, 3, 1, 2, 2, 5};
        for (int part = 1; part < 16; part++) {
            check.due("inner " + part, due[part - 1], x.inner(part));
        }
        x.remove(0);
        check.due("an edge less", 1, x.inner(3));
        for (int part : new int[] {0, 16, 17, -1, Integer.MIN_VALUE, Integer.MAX_VALUE}) {
            check.dueThrow("inner(" + part + ")", x, Check.ARGUMENT, () -> x.inner(part));
        }
        x.begin(12);
        check.due("all of twelve nodes", 0, x.inner(4095));
        check.dueThrow("inner(4096)", x, Check.ARGUMENT, () -> x.inner(4096));
    }

    @Says({
        "Returns the densest part.",
        "Returns the set of its nodes.",
        "Its density is the number of its inner edges divided by the number of its nodes."})
    static void promise16_densest_ofSomeParts() {
        EdgeHolders x = Check.withEdges(12);
        check.due("without edges all nodes", 4095, x.densest());
        check.due("of two nodes", 3, Check.withEdges(2).densest());
        x.add(10, 11);
        check.due("the only edge", 3072, x.densest());
        x.add(0, 1);
        check.due("of the same density the one with the most nodes", 3075, x.densest());
        x.add(3, 4);
        x.add(4, 3);
        check.due("the greatest density", 24, x.densest());
        x.turn(0);
        check.due("turning changes nothing", 24, x.densest());
        x.undo();
        x.undo();
        check.due("an undo does", 3075 + 24, x.densest());
        // 5 edges on 4 nodes are denser than 3 on 3
        check.due("more nodes, denser", 15, Check.withEdges(6, "ab", "ac", "bc", "bd", "cd").densest());
        check.due("less nodes, denser", 7, Check.withEdges(6, "ab", "ac", "bc", "bc", "cd").densest());
    }

    @Says({
        "Returns the least greatest load that can be reached by turning edges.",
        "Returns the load."})
    static void promise17_least_ofSomeEdges() {
        check.due("without edges", 0, new EdgeHolders().least());
        EdgeHolders x = Check.withEdges(4, "ab");
        int[] due = {1, 1, 2, 2, 3, 3};
        for (int edges = 1; edges <= due.length; edges++) {
            check.due(edges + " edges between two nodes", due[edges - 1], x.least());
            x.add(1, 0);
        }
        x.remove(0);
        check.due("an edge less", 3, x.least());
        x.remove(1);
        x.remove(2);
        check.due("three edges less", 2, x.least());
        x.undo();
        check.due("an undo", 3, x.least());
        check.due("five edges on four nodes", 2, Check.withEdges(4, "ab", "ac", "bc", "bd", "cd").least());
    }

    @Says("(The least greatest load that can be reached by turning edges is the density of the densest part, rounded up.)")
    static void promise17_least_isTheLeastOfAllTurnings() {
        EdgeHolders x = Check.withEdges(5, "ab", "ac", "ad", "bc", "bd", "cd", "ab", "ae");
        int[][] ends = {Check.edgeValues(x, 0), Check.edgeValues(x, 1)};
        int least = Integer.MAX_VALUE;
        for (int turned = 0; turned < 1 << 8; turned++) {
            int[] loads = new int[5];
            int greatest = 0;
            for (int edge = 0; edge < 8; edge++) {
                int holder = ends[turned >> edge & 1][edge];
                greatest = Math.max(greatest, ++loads[holder]);
            }
            least = Math.min(least, greatest);
        }
        check.due("the least of all turnings", least, x.least());
        x.balance();
        check.due("balancing reaches it here", least, x.value(2));
    }

    @Says("(The least greatest load that can be reached by turning edges is the density of the densest part, rounded up.)")
    static void promise17_least_isTheLeastOfAllTurningsOfSmallGraphs() {
        int[] noCapacities = new int[4];
        for (int graph = 0; graph < 729; graph++) {
            EdgeHolders x = Scenes.small(graph);
            check.due("least of the graph " + graph, leastExcess(x, noCapacities), x.least());
        }
    }

    @Says("Edges can be turned so that no load is greater than its capacity exactly if no part has more inner edges than the sum of the capacities of its nodes.")
    static void promise18_tooDense_justIfNoTurningFits() {
        int fitting = 0;
        for (int graph = 0; graph < 729; graph++) {
            int[] capacities = {graph % 3, graph / 3 % 4, graph / 5 % 3, 1 + graph / 11 % 2};
            EdgeHolders x = Scenes.small(graph);
            for (int node = 0; node < 4; node++) {
                x.setCapacity(node, capacities[node]);
            }
            boolean fits = leastExcess(x, capacities) <= 0;
            fitting += fits ? 1 : 0;
            check.that("tooDense of the graph " + graph, fits == (x.tooDense() == EdgeHolders.NONE));
        }
        check.that("some fit and some do not", fitting > 100 && fitting < 600);
    }

    /** By how much, of all turnings, the load that is most above its capacity is above it at least. */
    private static int leastExcess(EdgeHolders x, int[] capacities) {
        int[][] ends = {Check.edgeValues(x, 0), Check.edgeValues(x, 1)};
        int least = Integer.MAX_VALUE;
        for (int turned = 0; turned < 1 << ends[0].length; turned++) {
            int[] loads = new int[capacities.length];
            for (int edge = 0; edge < ends[0].length; edge++) {
                loads[ends[turned >> edge & 1][edge]]++;
            }
            int most = Integer.MIN_VALUE;
            for (int node = 0; node < loads.length; node++) {
                most = Math.max(most, loads[node] - capacities[node]);
            }
            least = Math.min(least, most);
        }
        return least;
    }

    @Says({
        "Finds a part that is too dense for the capacities.",
        "Returns the part with the greatest number of inner edges minus the sum of its capacities, of several the one with the least number; NONE if no part has more inner edges than this sum."})
    static void promise18_tooDense_ofSomeParts() {
        EdgeHolders x = Check.withEdges(4, "ab", "ab", "cd", "cd");
        check.due("capacities at first", EdgeHolders.NONE, x.tooDense());
        x.setCapacity(0, 1);
        x.setCapacity(1, 1);
        check.due("as many as the sum is not too dense", EdgeHolders.NONE, x.tooDense());
        x.setCapacity(1, 0);
        check.due("one too many", 3, x.tooDense());
        x.setCapacity(2, 1);
        x.setCapacity(3, 0);
        check.due("two are one too many, both together are two", 15, x.tooDense());
        x.setCapacity(3, 1);
        check.due("of several the least number", 3, x.tooDense());
        x.setCapacity(0, 40);
        x.setCapacity(3, 0);
        check.due("the other one", 12, x.tooDense());
        x.add(2, 0);
        check.due("an edge to a node with much room", 12, x.tooDense());
        x.setCapacity(0, 0);
        check.due("an edge that joins both", 15, x.tooDense());
        EdgeHolders y = Check.withEdges(12, "kl");
        y.setCapacity(10, 0);
        y.setCapacity(11, 0);
        check.due("the last two", 3072, y.tooDense());
        y.setCapacity(0, 0);
        check.due("a node more, not more too many: the least number", 3072, y.tooDense());
    }
}
