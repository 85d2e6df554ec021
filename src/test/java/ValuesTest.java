/** Promises 9 to 12: node, edge, edgeAt, value. */
public final class ValuesTest {
    private static final Check check = new Check();

    public static void main(String[] args) {
        Cases.run(ValuesTest.class, check, 9, 12);
        check.end();
    }

    @Says({
        "Returns something about a node.",
        "0 its load, 1 the number of its edges, 2 its capacity, 3 the number of different nodes with which it is joined, 4 the set of the nodes that are visited from it on, itself too",
        "Returns that value.",
        "The load of a node is the number of edges that it holds.",
        "Throws `IndexOutOfBoundsException` if there is no such node",
        "Throws `IllegalArgumentException` if what is out of range"})
    static void promise09_node_eachValue() {
        EdgeHolders x = Check.withEdges(5, "ab", "ba", "bc", "cd", "bc");
        x.setCapacity(1, 5);
        check.dueRow("holders", Check.row(0, 1, 2, 3, 1), Check.edgeValues(x, 2));
        check.dueRow("loads", Check.row(1, 2, 1, 1, 0), Check.nodeValues(x, 0));
        check.dueRow("edges", Check.row(2, 4, 3, 1, 0), Check.nodeValues(x, 1));
        check.dueRow("capacities", Check.row(3, 5, 3, 3, 3), Check.nodeValues(x, 2));
        check.dueRow("joined with", Check.row(1, 2, 2, 1, 0), Check.nodeValues(x, 3));
        check.dueRow("visited", Check.row(7, 7, 7, 15, 16), Check.nodeValues(x, 4));
        x.turn(2);
        check.dueRow("visited then", Check.row(7, 7, 4, 12, 16), Check.nodeValues(x, 4));
        check.dueThrow("node(5, 0)", x, Check.INDEX, () -> x.node(5, 0));
        check.dueThrow("node(-1, 0)", x, Check.INDEX, () -> x.node(-1, 0));
        check.dueThrow("node(0, 5)", x, Check.ARGUMENT, () -> x.node(0, 5));
        check.dueThrow("node(0, -1)", x, Check.ARGUMENT, () -> x.node(0, -1));
        check.dueThrow("no node comes first", x, Check.INDEX, () -> x.node(5, 5));
        x.begin(12);
        check.due("the last of twelve nodes", 2048, x.node(11, 4));
        check.dueThrow("node(12, 0)", x, Check.INDEX, () -> x.node(12, 0));
    }

    @Says({
        "Returns something about an edge.",
        "0 its first end, 1 its second end, 2 the node that holds it, 3 how often it was turned so far, by any method",
        "Returns that value.",
        "Throws `NoSuchElementException` if there is no such edge",
        "Throws `IllegalArgumentException` if what is out of range"})
    static void promise10_edge_eachValue() {
        EdgeHolders x = Check.withEdges(6, "ab", "dc", "fa");
        x.turn(1);
        x.turn(1);
        x.turn(1);
        check.dueRow("first ends", Check.row(0, 3, 5), Check.edgeValues(x, 0));
        check.dueRow("second ends", Check.row(1, 2, 0), Check.edgeValues(x, 1));
        check.dueRow("holders", Check.row(0, 2, 5), Check.edgeValues(x, 2));
        check.dueRow("how often turned", Check.row(0, 3, 0), Check.edgeValues(x, 3));
        x.remove(0);
        check.due("its number stays", 5, x.edge(2, 0));
        check.due("carried out", 1, Check.carryOut(x, "t2;"));
        check.due("turned by a text", 1, x.edge(2, 3));
        for (int edge : new int[] {0, 3, -1, Integer.MIN_VALUE}) {
            check.dueThrow("edge(" + edge + ", 0)", x, Check.ELEMENT, () -> x.edge(edge, 0));
            check.dueThrow("no edge comes first", x, Check.ELEMENT, () -> x.edge(edge, 4));
        }
        check.dueThrow("edge(1, 4)", x, Check.ARGUMENT, () -> x.edge(1, 4));
        check.dueThrow("edge(1, -1)", x, Check.ARGUMENT, () -> x.edge(1, -1));
    }

    @Says({
        "Returns the number of an edge.",
        "0 for the edge with the lowest number, and so on",
        "Returns the number.",
        "Throws `IndexOutOfBoundsException` if there are not so many edges"})
    static void promise11_edgeAt_eachIndex() {
        EdgeHolders x = Check.withEdges(6, "ab", "bc", "cd", "de");
        x.remove(1);
        x.add(4, 5);
        check.due("the lowest", 0, x.edgeAt(0));
        check.due("the next one", 2, x.edgeAt(1));
        check.due("the third one", 3, x.edgeAt(2));
        check.due("the last one", 4, x.edgeAt(3));
        check.dueThrow("edgeAt(4)", x, Check.INDEX, () -> x.edgeAt(4));
        check.dueThrow("edgeAt(-1)", x, Check.INDEX, () -> x.edgeAt(-1));
        x.remove(4);
        check.dueThrow("edgeAt(3) then", x, Check.INDEX, () -> x.edgeAt(3));
        x.begin(6);
        check.dueThrow("edgeAt(0) without edges", x, Check.INDEX, () -> x.edgeAt(0));
    }

    @Says({
        "Returns a number.",
        "0 the nodes, 1 the edges, 2 the greatest load, 3 the least load, 4 the sum of the squares of all loads, 5 the edges that were turned so far (an edge that was turned twice counts twice), 6 the number that the next edge gets, 7 the nodes whose load is greater than their capacity",
        "Returns that number.",
        "Throws `IllegalArgumentException` if what is out of range"})
    static void promise12_value_eachValue() {
        EdgeHolders x = Check.withEdges(4, "ab", "ab", "ab", "ac", "cd", "ca");
        x.turn(1);
        x.turn(1);
        x.turn(1);
        x.remove(5);
        x.setCapacity(0, 2);
        check.dueRow("loads", Check.row(3, 0, 1, 1), Check.loads(x));
        int[] values = {4, 5, 3, 0, 11, 3, 6, 1};
        for (int what = 0; what < values.length; what++) {
            check.due("value " + what, values[what], x.value(what));
        }
        EdgeHolders y = Check.withEdges(2, "ba", "ba", "ba");
        check.due("the least load of the node 0", 1, y.value(3));
        check.due("the greatest load of the last node", 2, y.value(2));
        x.setCapacity(0, 3);
        check.due("a load as great as the capacity", 0, x.value(7));
        x.setCapacity(2, 0);
        x.setCapacity(3, 0);
        check.due("two are greater", 2, x.value(7));
        x.turn(0);
        check.due("the least load", 1, x.value(3));
        check.due("the greatest load", 2, x.value(2));
        for (int what : new int[] {8, -1, Integer.MAX_VALUE, Integer.MIN_VALUE}) {
            check.dueThrow("value(" + what + ")", x, Check.ARGUMENT, () -> x.value(what));
        }
    }
}
