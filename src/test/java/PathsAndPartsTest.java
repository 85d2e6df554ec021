/** Promises 13 to 18: path, step, inner, densest, least, tooDense. */
public final class PathsAndPartsTest {
    private static final Check check = new Check();

    public static void main(String[] args) {
        path();
        pathOfSeveral();
        pathInOrderOfVisiting();
        step();
        inner();
        densest();
        least();
        leastIsTheLeastOfAllTurnings();
        tooDense();
        check.end();
    }

    private static void path() {
        EdgeHolders x = Check.withEdges(6, "ab", "bc", "cd", "da");
        check.dueRow("holders", Check.row(0, 1, 2, 3), Check.edgeValues(x, 2));
        check.due("one edge", 1, x.path(0, 1));
        check.due("two edges", 2, x.path(0, 2));
        check.due("three edges", 3, x.path(0, 3));
        check.due("round", 2, x.path(2, 0));
        check.due("to itself", 0, x.path(3, 3));
        check.due("to itself without edges", 0, x.path(5, 5));
        check.due("no path", EdgeHolders.NONE, x.path(0, 5));
        check.due("no path from a node without edges", EdgeHolders.NONE, x.path(5, 0));
        x.turn(0);
        check.due("against the holders there is no path", EdgeHolders.NONE, x.path(0, 2));
        check.due("from the holder on", 1, x.path(1, 0));
        for (int node : new int[] {6, -1, Integer.MAX_VALUE, Integer.MIN_VALUE}) {
            check.dueThrow("path from " + node, x, Check.INDEX, () -> x.path(node, 0));
            check.dueThrow("path to " + node, x, Check.INDEX, () -> x.path(0, node));
            check.dueThrow("path from and to " + node, x, Check.INDEX, () -> x.path(node, node));
        }
    }

    private static void pathOfSeveral() {
        EdgeHolders x = Check.withEdges(3, "ab", "ab", "ab", "ab");
        check.dueRow("holders", Check.row(0, 1, 0, 1), Check.edgeValues(x, 2));
        check.due("the lowest of several edges", 0, x.step(0, 1, 0));
        check.due("the lowest of several edges back", 1, x.step(1, 0, 0));
        x.turn(0);
        check.due("the lowest one that is held", 2, x.step(0, 1, 0));
        check.due("the lowest one back", 0, x.step(1, 0, 0));
    }

    private static void pathInOrderOfVisiting() {
        // a holds the edges to c (0) and b (1); both hold one to d: c was visited first, so d is visited from c
        EdgeHolders x = Check.withEdges(6, "ac", "ab", "bd", "cd");
        x.turn(1);
        x.turn(2);
        x.turn(2);
        x.turn(1);
        hold(x, 0, 0);
        hold(x, 1, 0);
        hold(x, 2, 1);
        hold(x, 3, 2);
        check.due("two edges", 2, x.path(0, 3));
        check.due("first to c", 0, x.step(0, 3, 0));
        check.due("from c, though its edge is the higher one", 3, x.step(0, 3, 1));
        // a longer path by lower numbers is not taken
        EdgeHolders y = Check.withEdges(4, "ab", "bc", "cd", "ad");
        hold(y, 0, 0);
        hold(y, 1, 1);
        hold(y, 2, 2);
        hold(y, 3, 0);
        check.due("the short one", 1, y.path(0, 3));
        check.due("its edge", 3, y.step(0, 3, 0));
    }

    private static void hold(EdgeHolders x, int edge, int node) {
        if (x.edge(edge, 2) != node) {
            x.turn(edge);
        }
    }

    private static void step() {
        EdgeHolders x = Check.withEdges(6, "ab", "bc", "cd");
        x.remove(0);
        x.add(0, 1);
        check.due("the path", 3, x.path(0, 3));
        check.dueRow("its edges", Check.row(3, 1, 2), Check.row(x.step(0, 3, 0), x.step(0, 3, 1), x.step(0, 3, 2)));
        check.due("a shorter path", 1, x.step(0, 2, 1));
        check.dueThrow("a step too many", x, Check.INDEX, () -> x.step(0, 3, 3));
        check.dueThrow("a step before the first", x, Check.INDEX, () -> x.step(0, 3, -1));
        check.dueThrow("far before", x, Check.INDEX, () -> x.step(0, 3, Integer.MIN_VALUE));
        check.dueThrow("far behind", x, Check.INDEX, () -> x.step(0, 3, Integer.MAX_VALUE));
        check.dueThrow("no step to itself", x, Check.INDEX, () -> x.step(1, 1, 0));
        check.dueThrow("no path", x, Check.INDEX, () -> x.step(0, 5, 0));
        check.dueThrow("no path, and before the first", x, Check.INDEX, () -> x.step(0, 5, -1));
        check.dueThrow("no such node from", x, Check.INDEX, () -> x.step(6, 0, 0));
        check.dueThrow("no such node to", x, Check.INDEX, () -> x.step(0, 6, 0));
        check.dueThrow("a negative node", x, Check.INDEX, () -> x.step(-1, 0, 0));
        for (int node : new int[] {32, 33, -31, -32, Integer.MAX_VALUE, Integer.MIN_VALUE}) {
            check.dueThrow("step from " + node, x, Check.INDEX, () -> x.step(node, 1, 0));
            check.dueThrow("step to " + node, x, Check.INDEX, () -> x.step(0, node, 0));
            check.dueThrow("step from and to " + node, x, Check.INDEX, () -> x.step(node, node, 0));
        }
    }

    private static void inner() {
        EdgeHolders x = Check.withEdges(4, "ab", "ba", "bc", "cd", "ad");
        int[] due = {0, 0, 2, 0, 0, 1, 3, 0, 1, 0, 3, 1, 2, 2, 5};
        for (int part = 1; part < 16; part++) {
            check.due("inner " + part, due[part - 1], x.inner(part));
        }
        x.remove(0);
        check.due("an edge less", 1, x.inner(3));
        for (int part : new int[] {0, 16, 17, -1, Integer.MIN_VALUE, Integer.MAX_VALUE}) {
            check.dueThrow("inner(" + part + ")", x, Check.ARGUMENT, () -> x.inner(part));
        }
        x.begin(12);
        check.due("all of twelve nodes", 0, x.inner(4095));
        check.dueThrow("inner(4096)", x, Check.ARGUMENT, () -> x.inner(4096));
    }

    private static void densest() {
        EdgeHolders x = Check.withEdges(12);
        check.due("without edges all nodes", 4095, x.densest());
        check.due("of two nodes", 3, Check.withEdges(2).densest());
        x.add(10, 11);
        check.due("the only edge", 3072, x.densest());
        x.add(0, 1);
        check.due("of the same density the one with the most nodes", 3075, x.densest());
        x.add(3, 4);
        x.add(4, 3);
        check.due("the greatest density", 24, x.densest());
        x.turn(0);
        check.due("turning changes nothing", 24, x.densest());
        x.undo();
        x.undo();
        check.due("an undo does", 3075 + 24, x.densest());
        // 5 edges on 4 nodes are denser than 3 on 3
        check.due("more nodes, denser", 15, Check.withEdges(6, "ab", "ac", "bc", "bd", "cd").densest());
        check.due("less nodes, denser", 7, Check.withEdges(6, "ab", "ac", "bc", "bc", "cd").densest());
    }

    private static void least() {
        check.due("without edges", 0, new EdgeHolders().least());
        EdgeHolders x = Check.withEdges(4, "ab");
        int[] due = {1, 1, 2, 2, 3, 3};
        for (int edges = 1; edges <= due.length; edges++) {
            check.due(edges + " edges between two nodes", due[edges - 1], x.least());
            x.add(1, 0);
        }
        x.remove(0);
        check.due("an edge less", 3, x.least());
        x.remove(1);
        x.remove(2);
        check.due("three edges less", 2, x.least());
        x.undo();
        check.due("an undo", 3, x.least());
        check.due("five edges on four nodes", 2, Check.withEdges(4, "ab", "ac", "bc", "bd", "cd").least());
    }

    private static void leastIsTheLeastOfAllTurnings() {
        EdgeHolders x = Check.withEdges(5, "ab", "ac", "ad", "bc", "bd", "cd", "ab", "ae");
        int[][] ends = {Check.edgeValues(x, 0), Check.edgeValues(x, 1)};
        int least = Integer.MAX_VALUE;
        for (int turned = 0; turned < 1 << 8; turned++) {
            int[] loads = new int[5];
            int greatest = 0;
            for (int edge = 0; edge < 8; edge++) {
                int holder = ends[turned >> edge & 1][edge];
                greatest = Math.max(greatest, ++loads[holder]);
            }
            least = Math.min(least, greatest);
        }
        check.due("the least of all turnings", least, x.least());
        x.balance();
        check.due("balancing reaches it here", least, x.value(2));
    }

    private static void tooDense() {
        EdgeHolders x = Check.withEdges(4, "ab", "ab", "cd", "cd");
        check.due("capacities at first", EdgeHolders.NONE, x.tooDense());
        x.setCapacity(0, 1);
        x.setCapacity(1, 1);
        check.due("as many as the sum is not too dense", EdgeHolders.NONE, x.tooDense());
        x.setCapacity(1, 0);
        check.due("one too many", 3, x.tooDense());
        x.setCapacity(2, 1);
        x.setCapacity(3, 0);
        check.due("two are one too many, both together are two", 15, x.tooDense());
        x.setCapacity(3, 1);
        check.due("of several the least number", 3, x.tooDense());
        x.setCapacity(0, 40);
        x.setCapacity(3, 0);
        check.due("the other one", 12, x.tooDense());
        x.add(2, 0);
        check.due("an edge to a node with much room", 12, x.tooDense());
        x.setCapacity(0, 0);
        check.due("an edge that joins both", 15, x.tooDense());
        EdgeHolders y = Check.withEdges(12, "kl");
        y.setCapacity(10, 0);
        y.setCapacity(11, 0);
        check.due("the last two", 3072, y.tooDense());
        y.setCapacity(0, 0);
        check.due("a node more, not more too many: the least number", 3072, y.tooDense());
    }
}
