/** The boundary cases of the promises 13 to 18: path, step, inner, densest, least, tooDense. */
public final class PathsAndPartsBoundariesTest {
    private static final Check check = new Check();

    public static void main(String[] args) {
        Cases.run(PathsAndPartsBoundariesTest.class, check, 13, 18);
        check.end();
    }

    // ---- promise 13

    @Says("Throws `IndexOutOfBoundsException` if there is no such node")
    static void promise13_path_nodesFromFirstToLast() {
        EdgeHolders x = Scenes.rowOfTwelve();
        check.due("first to last", 11, x.path(0, 11));
        check.due("last to first", EdgeHolders.NONE, x.path(11, 0));
        check.refused("from too high", Check.INDEX, Scenes::busy, y -> y.path(6, 0));
        check.refused("to too high", Check.INDEX, Scenes::busy, y -> y.path(0, 6));
        check.refused("from below", Check.INDEX, Scenes::busy, y -> y.path(-1, 0));
        check.refused("to below", Check.INDEX, Scenes::busy, y -> y.path(0, -1));
        check.refused("both too high, the same", Check.INDEX, Scenes::busy, y -> y.path(6, 6));
        check.refused("a thirteenth node", Check.INDEX, Scenes::full, y -> y.path(0, 12));
        for (int node : Scenes.FAR) {
            check.dueThrow("from " + node, x, Check.INDEX, () -> x.path(node, 0));
            check.dueThrow("to " + node, x, Check.INDEX, () -> x.path(0, node));
        }
    }

    @Says("0 if both are the same")
    static void promise13_path_toItselfHasNoEdges() {
        EdgeHolders ring = Scenes.held(3, "ab", "bc", "ca");
        for (int node = 0; node < 3; node++) {
            check.due("in a ring", 0, ring.path(node, node));
        }
        check.due("without edges", 0, new EdgeHolders().path(5, 5));
        check.due("with forty edges", 0, Scenes.pair(40).path(1, 1));
    }

    @Says("NONE if there is no path")
    static void promise13_path_noneAgainstTheHolders() {
        EdgeHolders x = Scenes.held(3, "ab", "cb");
        check.due("along the holder", 1, x.path(0, 1));
        check.due("against the holder", EdgeHolders.NONE, x.path(1, 0));
        check.due("the second edge is held by the wrong end", EdgeHolders.NONE, x.path(0, 2));
        check.due("without edges", EdgeHolders.NONE, new EdgeHolders().path(0, 1));
        x.turn(1);
        check.due("turned", 2, x.path(0, 2));
    }

    @Says("the other end of an edge that it holds is visited by this edge if it has not been visited yet")
    static void promise13_path_fromOneEdgeToTheMost() {
        EdgeHolders x = Scenes.rowOfTwelve();
        for (int to = 0; to < 12; to++) {
            check.due("the row to " + to, to, x.path(0, to));
        }
        x.add(0, 11);
        if (x.edge(11, 2) != 0) {
            x.turn(11);
        }
        check.due("a shorter way by a higher number", 1, x.path(0, 11));
        check.due("the others stay", 10, x.path(0, 10));
    }

    // ---- promise 14

    @Says("0 for the edge that is held by from, and so on")
    static void promise14_step_fromTheFirstToTheLastPlace() {
        EdgeHolders x = Scenes.rowOfTwelve();
        for (int place = 0; place < 11; place++) {
            check.due("place " + place, place, x.step(0, 11, place));
        }
        check.due("the only place", 10, x.step(10, 11, 0));
        check.refused("a place too far", Check.INDEX, Scenes::rowOfTwelve, y -> y.step(0, 11, 11));
        check.refused("a place before", Check.INDEX, Scenes::rowOfTwelve, y -> y.step(0, 11, -1));
        check.refused("a second place of one", Check.INDEX, Scenes::rowOfTwelve, y -> y.step(10, 11, 1));
        for (int place : Scenes.FAR) {
            check.dueThrow("place " + place, x, Check.INDEX, () -> x.step(0, 11, place));
        }
    }

    @Says("or the path has not so many edges (or there is none)")
    static void promise14_step_noPathAndNoEdge() {
        check.refused("to itself", Check.INDEX, Scenes::rowOfTwelve, x -> x.step(3, 3, 0));
        check.refused("to itself, place -1", Check.INDEX, Scenes::rowOfTwelve, x -> x.step(3, 3, -1));
        check.refused("no path", Check.INDEX, Scenes::rowOfTwelve, x -> x.step(11, 0, 0));
        check.refused("no path, place -1", Check.INDEX, Scenes::rowOfTwelve, x -> x.step(11, 0, -1));
        check.refused("no path, place -2", Check.INDEX, Scenes::rowOfTwelve, x -> x.step(11, 0, -2));
        check.refused("without edges", Check.INDEX, Scenes::fresh, x -> x.step(0, 1, 0));
        EdgeHolders x = Scenes.held(3, "ab", "cb");
        check.due("the path that there is", 0, x.step(0, 1, 0));
        check.dueThrow("behind it", x, Check.INDEX, () -> x.step(0, 1, 1));
        check.dueThrow("a node that cannot be reached", x, Check.INDEX, () -> x.step(0, 2, 1));
    }

    @Says("Throws `IndexOutOfBoundsException` if there is no such node")
    static void promise14_step_nodesFromFirstToLast() {
        EdgeHolders x = Scenes.held(6, "af", "fa");
        check.due("first to last", 0, x.step(0, 5, 0));
        check.due("last to first", 1, x.step(5, 0, 0));
        check.refused("from too high", Check.INDEX, Scenes::busy, y -> y.step(6, 0, 0));
        check.refused("to too high", Check.INDEX, Scenes::busy, y -> y.step(0, 6, 0));
        check.refused("from below", Check.INDEX, Scenes::busy, y -> y.step(-1, 0, 0));
        check.refused("to below", Check.INDEX, Scenes::busy, y -> y.step(0, -1, 0));
        for (int node : Scenes.FAR) {
            EdgeHolders ring = Scenes.held(6, "ab", "bc", "cd", "de", "ef", "fa");
            for (int other = 0; other < 6; other++) {
                int some = other;
                check.due("the path there is, as long as can be", 5, ring.path(other, (other + 5) % 6));
                check.dueThrow("from " + node, ring, Check.INDEX, () -> ring.step(node, some, 0));
                check.dueThrow("to " + node, ring, Check.INDEX, () -> ring.step(some, node, 0));
                check.dueThrow("path from " + node, ring, Check.INDEX, () -> ring.path(node, some));
                check.dueThrow("path to " + node, ring, Check.INDEX, () -> ring.path(some, node));
            }
        }
    }

    @Says("its edges are looked at in ascending order of the numbers")
    static void promise14_step_theLowestEdgeOfSeveral() {
        EdgeHolders x = Scenes.held(3, "ba", "ab", "ab", "bc", "bc");
        check.due("the lowest that is held", 1, x.step(0, 1, 0));
        check.due("the lowest of the next ones", 3, x.step(0, 2, 1));
        x.remove(1);
        check.due("the next lowest", 2, x.step(0, 1, 0));
        EdgeHolders full = Scenes.pair(40);
        check.due("the lowest of twenty", 1, full.step(1, 0, 0));
        for (int edge = 1; edge < 38; edge += 2) {
            full.turn(edge);
        }
        check.due("the last of forty", 39, full.step(1, 0, 0));
    }

    @Says("nodes are looked at in the order in which they were visited")
    static void promise14_step_theNodeThatWasVisitedFirst() {
        EdgeHolders x = Scenes.held(4, "ac", "ab", "bd", "cd");
        check.dueRow("by the node that was visited first, not by the lowest", Check.row(0, 3),
            Check.row(x.step(0, 3, 0), x.step(0, 3, 1)));
        EdgeHolders y = Scenes.held(4, "cd", "bd", "ab", "ac");
        check.dueRow("not by the lowest edge", Check.row(2, 1), Check.row(y.step(0, 3, 0), y.step(0, 3, 1)));
    }

    // ---- promise 15

    @Says("Throws `IllegalArgumentException` if part is empty or has a node that there is not")
    static void promise15_inner_partsFromTheFirstToAllNodes() {
        for (int nodes = 2; nodes <= 12; nodes++) {
            EdgeHolders x = new EdgeHolders();
            x.begin(nodes);
            x.add(0, nodes - 1);
            int all = (1 << nodes) - 1;
            check.due("the first node alone", 0, x.inner(1));
            check.due("the last node alone", 0, x.inner(1 << nodes - 1));
            check.due("all nodes", 1, x.inner(all));
            check.due("both ends alone", 1, x.inner(1 << nodes - 1 | 1));
            check.dueThrow("no node", x, Check.ARGUMENT, () -> x.inner(0));
            check.dueThrow("a node that there is not", x, Check.ARGUMENT, () -> x.inner(all + 1));
            check.dueThrow("one that there is not and all others", x, Check.ARGUMENT, () -> x.inner(2 * all + 1));
            check.dueThrow("one that there is not and one that there is", x, Check.ARGUMENT, () -> x.inner(all + 2));
            check.dueThrow("-1", x, Check.ARGUMENT, () -> x.inner(-1));
        }
    }

    @Says("Throws `IllegalArgumentException` if part is empty or has a node that there is not")
    static void promise15_inner_isRefused() {
        check.refused("no node", Check.ARGUMENT, Scenes::busy, x -> x.inner(0));
        check.refused("a seventh node", Check.ARGUMENT, Scenes::busy, x -> x.inner(64));
        check.refused("all with a seventh node", Check.ARGUMENT, Scenes::busy, x -> x.inner(127));
        check.refused("-1", Check.ARGUMENT, Scenes::busy, x -> x.inner(-1));
        check.refused("a thirteenth node", Check.ARGUMENT, Scenes::full, x -> x.inner(4096));
        check.refused("no node, fresh", Check.ARGUMENT, Scenes::fresh, x -> x.inner(0));
        for (int part : new int[] {Integer.MAX_VALUE, Integer.MIN_VALUE, Integer.MIN_VALUE + 1, 1 << 30, 65, -64}) {
            EdgeHolders x = Scenes.busy();
            check.dueThrow("part " + part, x, Check.ARGUMENT, () -> x.inner(part));
        }
    }

    @Says("Its inner edges are those with both ends in it.")
    static void promise15_inner_noneOneAndForty() {
        check.due("without edges", 0, new EdgeHolders().inner(63));
        check.due("forty", 40, Scenes.pair(40).inner(3));
        check.due("forty of twelve nodes", 40, Scenes.full().inner(4095));
        EdgeHolders x = Scenes.held(4, "ab", "ba", "bc");
        check.dueRow("one end alone does not count", Check.row(0, 0, 2, 0, 0, 1, 3, 0, 0, 0, 2, 0, 0, 1, 3),
            inners(x, 15));
    }

    private static int[] inners(EdgeHolders x, int most) {
        int[] row = new int[most];
        for (int part = 1; part <= most; part++) {
            row[part - 1] = x.inner(part);
        }
        return row;
    }

    // ---- promise 16

    @Says("of several, the one with the most nodes")
    static void promise16_densest_withoutEdgesAllNodes() {
        for (int nodes = 2; nodes <= 12; nodes++) {
            EdgeHolders x = new EdgeHolders();
            x.begin(nodes);
            check.due("of " + nodes, (1 << nodes) - 1, x.densest());
        }
        EdgeHolders x = Scenes.pair(1);
        x.remove(0);
        check.due("behind a remove", 3, x.densest());
    }

    @Says("of several, the one with the most nodes")
    static void promise16_densest_ofTheSameDensityTheMostNodes() {
        check.due("two pairs", 15, Scenes.held(6, "ab", "cd").densest());
        check.due("the first and the last", 0b110011, Scenes.held(6, "ab", "fe").densest());
        check.due("a pair of two edges and a ring", 0b111101, Scenes.held(6, "ac", "ca", "de", "ef", "fd").densest());
        check.due("all by rings", 63, Scenes.held(6, "ab", "bc", "ca", "de", "ef", "fd").densest());
        check.due("a chord makes a part denser", 0b111, Scenes.held(6, "ab", "bc", "ca", "ab", "de", "ef", "fd").densest());
    }

    @Says("The densest part is the one with the greatest density")
    static void promise16_densest_byTheLeastDifference() {
        EdgeHolders tree = Scenes.rowOfTwelve();
        check.due("11 of 12", 4095, tree.densest());
        tree.remove(10);
        check.due("10 of 11 is more than 10 of 12", 2047, tree.densest());
        check.due("3 of 4 is more than 2 of 3", 0b1111, Scenes.held(7, "ab", "bc", "cd", "ef", "fg").densest());
        check.due("2 of 3 is more than 1 of 2", 0b11100, Scenes.held(5, "ab", "cd", "de").densest());
        check.due("4 of 3 is more than 5 of 4", 0b111, Scenes.held(7, "ab", "bc", "ca", "ab", "de", "ef", "fg", "gd", "dg").densest());
        check.due("6 of 5 is less than 5 of 4", 0b1111, Scenes.held(9, "ab", "bc", "cd", "da", "ac", "ef", "fg", "gh", "hi", "ie", "eg").densest());
    }

    @Says("of several, the one with the most nodes; of several, the one with the least number")
    static void promise16_densest_ofAllSmallGraphs() {
        for (int graph = 0; graph < 729; graph++) {
            EdgeHolders x = Scenes.small(graph);
            int best = 1;
            for (int part = 2; part < 16; part++) {
                int nodes = Integer.bitCount(part);
                int bestNodes = Integer.bitCount(best);
                int denser = x.inner(part) * bestNodes - x.inner(best) * nodes;
                best = denser > 0 || denser == 0 && nodes > bestNodes ? part : best;
            }
            check.due("densest of the graph " + graph, best, x.densest());
            check.due("least of the graph " + graph,
                (x.inner(best) + Integer.bitCount(best) - 1) / Integer.bitCount(best), x.least());
        }
    }

    @Says("There are at most 40")
    static void promise16_densest_withFortyEdges() {
        check.due("all between two nodes", 3, Scenes.pair(40).densest());
        EdgeHolders x = new EdgeHolders();
        x.begin(12);
        for (int edge = 0; edge < 40; edge++) {
            x.add(10 + edge % 2, 11 - edge % 2);
        }
        check.due("all between the last two", 0b110000000000, x.densest());
    }

    @Says("Its inner edges are those with both ends in it.")
    static void promise16_densest_followsEachChangeOfTheEdges() {
        EdgeHolders x = Scenes.held(4, "ab", "ab", "cd");
        check.due("asked first", 3, x.densest());
        x.remove(0);
        check.due("behind remove", 15, x.densest());
        x.add(2, 3);
        check.due("behind add", 12, x.densest());
        x.turn(2);
        check.due("behind turn", 12, x.densest());
        x.undo();
        x.undo();
        check.due("behind undo", 15, x.densest());
        check.due("orders", 2, Check.carryOut(x, "+ab;+ab;"));
        check.due("behind carryOut", 3, x.densest());
        x.begin(4);
        check.due("behind begin", 15, x.densest());
        x.undo();
        check.due("behind undo of begin", 3, x.densest());
    }

    // ---- promise 17

    @Says("(The least greatest load that can be reached by turning edges is the density of the densest part, rounded up.)")
    static void promise17_least_isRoundedUp() {
        check.due("without edges", 0, new EdgeHolders().least());
        int[] edges = {1, 2, 3, 4, 5, 37, 38, 39, 40};
        int[] due = {1, 1, 2, 2, 3, 19, 19, 20, 20};
        for (int at = 0; at < edges.length; at++) {
            check.due(edges[at] + " edges of two nodes", due[at], Scenes.pair(edges[at]).least());
        }
        check.due("3 of 3", 1, Scenes.held(3, "ab", "bc", "ca").least());
        check.due("4 of 3", 2, Scenes.held(3, "ab", "bc", "ca", "ab").least());
        check.due("11 of 12", 1, Scenes.rowOfTwelve().least());
        EdgeHolders ring = Scenes.rowOfTwelve();
        ring.add(11, 0);
        check.due("12 of 12", 1, ring.least());
        ring.add(0, 5);
        check.due("13 of 12", 2, ring.least());
    }

    @Says("the least greatest load that can be reached by turning edges")
    static void promise17_least_doesNotDependOnTheHolders() {
        EdgeHolders x = Scenes.held(3, "ab", "ab", "ab", "ab");
        check.due("all held by one", 2, x.least());
        x.balance();
        check.due("balanced", 2, x.least());
        check.due("reached", 2, x.value(2));
    }

    // ---- promise 18

    @Says("NONE if no part has more inner edges than this sum")
    static void promise18_tooDense_asManyAsTheSumIsNotTooMany() {
        EdgeHolders x = Scenes.pair(6);
        check.due("6 of 3 and 3", EdgeHolders.NONE, x.tooDense());
        x.add(0, 1);
        check.due("7 of 3 and 3", 3, x.tooDense());
        x.setCapacity(1, 4);
        check.due("7 of 3 and 4", EdgeHolders.NONE, x.tooDense());
        x.setCapacity(0, 2);
        check.due("7 of 2 and 4", 3, x.tooDense());
    }

    @Says("NONE if no part has more inner edges than this sum")
    static void promise18_tooDense_capacitiesOf0And40() {
        EdgeHolders none = new EdgeHolders();
        for (int node = 0; node < 6; node++) {
            none.setCapacity(node, 0);
        }
        check.due("no edges, no room", EdgeHolders.NONE, none.tooDense());
        none.add(4, 5);
        check.due("one edge, no room", 0b110000, none.tooDense());
        EdgeHolders full = Scenes.pair(40);
        full.setCapacity(0, 0);
        full.setCapacity(1, 40);
        check.due("40 of 0 and 40", EdgeHolders.NONE, full.tooDense());
        full.setCapacity(1, 39);
        check.due("40 of 0 and 39", 3, full.tooDense());
    }

    @Says("of several the one with the least number")
    static void promise18_tooDense_ofSeveralTheLeastNumber() {
        EdgeHolders lower = Scenes.held(3, "bc");
        EdgeHolders higher = Scenes.held(3, "ab");
        for (int node = 0; node < 3; node++) {
            lower.setCapacity(node, 0);
            higher.setCapacity(node, 0);
        }
        check.due("6, not 7", 6, lower.tooDense());
        check.due("3, not 7", 3, higher.tooDense());
        EdgeHolders further = Scenes.held(3, "ab", "ab", "bc");
        further.setCapacity(0, 1);
        further.setCapacity(1, 0);
        further.setCapacity(2, 1);
        check.due("one edge more with one more room", 3, further.tooDense());
    }

    @Says("of several the one with the least number; NONE if no part has more inner edges than this sum")
    static void promise18_tooDense_ofAllSmallGraphs() {
        for (int graph = 0; graph < 729; graph++) {
            EdgeHolders x = Scenes.small(graph);
            int[] capacities = {graph % 2, graph / 2 % 3, graph % 5 / 2, graph / 7 % 2};
            for (int node = 0; node < 4; node++) {
                x.setCapacity(node, capacities[node]);
            }
            int best = EdgeHolders.NONE;
            int most = 0;
            for (int part = 1; part < 16; part++) {
                int over = x.inner(part);
                for (int node = 0; node < 4; node++) {
                    over -= (part >> node & 1) * capacities[node];
                }
                best = over > most ? part : best;
                most = Math.max(most, over);
            }
            check.due("tooDense of the graph " + graph, best, x.tooDense());
        }
    }

    @Says("the part with the greatest number of inner edges minus the sum of its capacities")
    static void promise18_tooDense_theGreatestDifference() {
        EdgeHolders x = Scenes.held(6, "ab", "ab", "de", "de", "de");
        for (int node = 0; node < 6; node++) {
            x.setCapacity(node, node == 2 || node == 5 ? 1 : 0);
        }
        check.due("both, 5 too many", 0b011011, x.tooDense());
        x.setCapacity(0, 2);
        check.due("3 too many, or as many with the other two", 0b011000, x.tooDense());
        x.setCapacity(0, 1);
        check.due("4 too many with the other two", 0b011011, x.tooDense());
        x.setCapacity(3, 40);
        check.due("the other two alone", 0b000011, x.tooDense());
        x.setCapacity(1, 1);
        check.due("nobody", EdgeHolders.NONE, x.tooDense());
    }

    @Says("Each node has a capacity, 0 to 40, initially 3.")
    static void promise18_tooDense_followsCapacitiesAndEdges() {
        EdgeHolders x = Scenes.pair(7);
        check.due("asked first", 3, x.tooDense());
        x.remove(0);
        check.due("behind remove", EdgeHolders.NONE, x.tooDense());
        x.setCapacity(0, 2);
        check.due("behind setCapacity", 3, x.tooDense());
        x.undo();
        check.due("behind undo", EdgeHolders.NONE, x.tooDense());
        check.due("orders", 1, Check.carryOut(x, "ca=0;"));
        check.due("behind carryOut", 3, x.tooDense());
        x.begin(12);
        check.due("behind begin", EdgeHolders.NONE, x.tooDense());
    }
}
