/** The boundary cases of the promises 9 to 12: node, edge, edgeAt, value. */
public final class ValuesBoundariesTest {
    private static final Check check = new Check();

    public static void main(String[] args) {
        Cases.run(ValuesBoundariesTest.class, check, 9, 12);
        check.end();
    }

    // ---- promise 9

    @Says("Throws `IndexOutOfBoundsException` if there is no such node")
    static void promise09_node_nodesFromFirstToLast() {
        EdgeHolders x = Scenes.full();
        for (int what = 0; what < 5; what++) {
            int some = what;
            check.that("the first node answers", x.node(0, what) >= 0);
            check.that("the last node answers", x.node(11, what) >= 0);
            check.refused("a thirteenth node", Check.INDEX, Scenes::full, y -> y.node(12, some));
            check.refused("a seventh node", Check.INDEX, Scenes::busy, y -> y.node(6, some));
            check.refused("a node below", Check.INDEX, Scenes::busy, y -> y.node(-1, some));
        }
        for (int node : Scenes.FAR) {
            EdgeHolders y = Scenes.busy();
            check.dueThrow("node " + node, y, Check.INDEX, () -> y.node(node, 0));
            check.dueThrow("visited from node " + node, y, Check.INDEX, () -> y.node(node, 4));
        }
    }

    @Says("Throws `IllegalArgumentException` if what is out of range")
    static void promise09_node_whatFrom0To4() {
        EdgeHolders x = Scenes.busy();
        check.dueRow("0 its load", Check.row(2, 0, 1, 0, 1, 0), Check.nodeValues(x, 0));
        check.dueRow("1 its edges", Check.row(2, 3, 1, 0, 1, 1), Check.nodeValues(x, 1));
        check.dueRow("2 its capacity", Check.row(1, 3, 3, 3, 3, 3), Check.nodeValues(x, 2));
        check.dueRow("3 its different nodes", Check.row(1, 2, 1, 0, 1, 1), Check.nodeValues(x, 3));
        check.dueRow("4 its visited nodes", Check.row(3, 2, 6, 8, 48, 32), Check.nodeValues(x, 4));
        check.refused("what is 5", Check.ARGUMENT, Scenes::busy, y -> y.node(0, 5));
        check.refused("what is -1", Check.ARGUMENT, Scenes::busy, y -> y.node(0, -1));
        for (int what : Scenes.FAR) {
            EdgeHolders y = Scenes.busy();
            check.dueThrow("what is " + what, y, Check.ARGUMENT, () -> y.node(5, what));
        }
    }

    @Says("If several exceptions apply, the one that is listed first is thrown.")
    static void promise09_node_ofSeveralExceptionsTheFirst() {
        check.refused("no node, what above", Check.INDEX, Scenes::busy, x -> x.node(6, 5));
        check.refused("no node, what below", Check.INDEX, Scenes::busy, x -> x.node(-1, -1));
    }

    @Says("0 its load, 1 the number of its edges")
    static void promise09_node_withoutAndWithFortyEdges() {
        EdgeHolders none = new EdgeHolders();
        int[] atNone = {0, 0, 3, 0, 32};
        EdgeHolders x = Scenes.pair(40);
        for (int edge = 0; edge < 40; edge += 2) {
            x.turn(edge);
        }
        int[] first = {0, 40, 3, 1, 1};
        int[] last = {40, 40, 3, 1, 3};
        for (int what = 0; what < 5; what++) {
            check.due("without edges, " + what, atNone[what], none.node(5, what));
            check.due("the empty end of forty edges, " + what, first[what], x.node(0, what));
            check.due("the full end of forty edges, " + what, last[what], x.node(1, what));
        }
    }

    @Says("3 the number of different nodes with which it is joined")
    static void promise09_node_joinedWithAllOthers() {
        EdgeHolders x = Scenes.held(12, "fa", "fb", "cf", "fd", "fe", "gf", "fh", "fi", "jf", "fk", "lf", "fl", "af");
        check.due("eleven different nodes", 11, x.node(5, 3));
        check.due("by thirteen edges", 13, x.node(5, 1));
        check.due("the first is joined with one", 1, x.node(0, 3));
        check.due("the last is joined with one", 1, x.node(11, 3));
        EdgeHolders y = Scenes.held(4, "ab", "bc", "cb");
        check.dueRow("by one edge, the lowest, and by several", Check.row(1, 2, 1, 0), Check.nodeValues(y, 3));
        check.dueRow("by one edge alone", Check.row(1, 1), Check.nodeValues(Scenes.pair(1), 3));
    }

    @Says("4 the set of the nodes that are visited from it on, itself too")
    static void promise09_node_visitsAllNodesOrItselfAlone() {
        EdgeHolders x = Scenes.rowOfTwelve();
        int[] due = new int[12];
        for (int node = 0; node < 12; node++) {
            due[node] = 4095 & ~((1 << node) - 1);
        }
        check.dueRow("visited", due, Check.nodeValues(x, 4));
    }

    // ---- promise 10

    @Says("Throws `NoSuchElementException` if there is no such edge")
    static void promise10_edge_numbersFromLowestToHighest() {
        int[] lowest = {0, 1, 0, 0};
        int[] highest = {4, 5, 4, 0};
        EdgeHolders x = Scenes.busy();
        for (int what = 0; what < 4; what++) {
            int some = what;
            check.due("the lowest, " + what, lowest[what], x.edge(0, what));
            check.due("the highest, " + what, highest[what], x.edge(4, what));
            check.refused("a number too high", Check.ELEMENT, Scenes::busy, y -> y.edge(5, some));
            check.refused("a number that was removed", Check.ELEMENT, Scenes::busy, y -> y.edge(3, some));
            check.refused("a number below", Check.ELEMENT, Scenes::busy, y -> y.edge(-1, some));
            check.refused("without edges", Check.ELEMENT, Scenes::fresh, y -> y.edge(0, some));
            check.refused("at 40 edges", Check.ELEMENT, Scenes::full, y -> y.edge(40, some));
        }
        check.due("the last of forty", 1, Scenes.pair(40).edge(39, 2));
        for (int edge : Scenes.FAR) {
            check.dueThrow("edge " + edge, x, Check.ELEMENT, () -> x.edge(edge, 0));
        }
    }

    @Says("Throws `IllegalArgumentException` if what is out of range")
    static void promise10_edge_whatFrom0To3() {
        EdgeHolders x = Scenes.busy();
        check.dueRow("0 first ends", Check.row(0, 0, 1, 4), Check.edgeValues(x, 0));
        check.dueRow("1 second ends", Check.row(1, 1, 2, 5), Check.edgeValues(x, 1));
        check.dueRow("2 holders", Check.row(0, 0, 2, 4), Check.edgeValues(x, 2));
        check.dueRow("3 turnings", Check.row(0, 1, 0, 0), Check.edgeValues(x, 3));
        check.refused("what is 4", Check.ARGUMENT, Scenes::busy, y -> y.edge(0, 4));
        check.refused("what is -1", Check.ARGUMENT, Scenes::busy, y -> y.edge(0, -1));
        for (int what : Scenes.FAR) {
            check.dueThrow("what is " + what, x, Check.ARGUMENT, () -> x.edge(4, what));
        }
    }

    @Says("If several exceptions apply, the one that is listed first is thrown.")
    static void promise10_edge_ofSeveralExceptionsTheFirst() {
        check.refused("no edge, what above", Check.ELEMENT, Scenes::busy, x -> x.edge(3, 4));
        check.refused("no edge, what below", Check.ELEMENT, Scenes::fresh, x -> x.edge(0, -1));
    }

    @Says("3 how often it was turned so far, by any method")
    static void promise10_edge_turnedByEachMethod() {
        check.due("not by add", 0, Scenes.held(2, "ab", "ab").edge(0, 3));
        EdgeHolders turn = Scenes.held(2, "ab");
        turn.turn(0);
        turn.turn(0);
        check.due("by turn, twice", 2, turn.edge(0, 3));
        EdgeHolders relieve = Scenes.held(2, "ab", "ab");
        relieve.relieve(0);
        check.dueRow("by relieve", Check.row(1, 1), Check.edgeValues(relieve, 3));
        EdgeHolders balance = Scenes.held(3, "ab", "ab", "bc");
        balance.balance();
        check.dueRow("by balance", Check.row(1, 1, 1), Check.edgeValues(balance, 3));
        EdgeHolders text = new EdgeHolders();
        check.due("orders", 7, Check.carryOut(text, "+ab;+ab;t1;t1;t1;ra;b;"));
        check.dueRow("by a text", Check.row(1, 3), Check.edgeValues(text, 3));
        EdgeHolders asked = Scenes.held(2, "ab", "ba", "ba", "ba");
        asked.turnsToBalance();
        asked.leastWithout(0);
        check.dueRow("not by a question", Check.row(0, 0, 0, 1), Check.edgeValues(asked, 3));
    }

    // ---- promise 11

    @Says("Throws `IndexOutOfBoundsException` if there are not so many edges")
    static void promise11_edgeAt_withoutEdges() {
        check.refused("index 0", Check.INDEX, Scenes::fresh, x -> x.edgeAt(0));
        check.refused("index -1", Check.INDEX, Scenes::fresh, x -> x.edgeAt(-1));
        EdgeHolders x = Scenes.pair(1);
        check.due("the only edge", 0, x.edgeAt(0));
        x.remove(0);
        check.dueThrow("index 0 behind a remove", x, Check.INDEX, () -> x.edgeAt(0));
    }

    @Says("0 for the edge with the lowest number, and so on")
    static void promise11_edgeAt_fromTheFirstToTheLast() {
        EdgeHolders x = Scenes.busy();
        check.dueRow("numbers with a gap", Check.row(0, 1, 2, 4),
            Check.row(x.edgeAt(0), x.edgeAt(1), x.edgeAt(2), x.edgeAt(3)));
        check.refused("one too far", Check.INDEX, Scenes::busy, y -> y.edgeAt(4));
        check.refused("one before", Check.INDEX, Scenes::busy, y -> y.edgeAt(-1));
        for (int index : Scenes.FAR) {
            check.dueThrow("index " + index, x, Check.INDEX, () -> x.edgeAt(index));
        }
    }

    @Says("There are at most 40")
    static void promise11_edgeAt_theLastOfForty() {
        EdgeHolders x = Scenes.full();
        check.due("index 39", 39, x.edgeAt(39));
        check.due("index 0", 0, x.edgeAt(0));
        check.refused("index 40", Check.INDEX, Scenes::full, y -> y.edgeAt(40));
    }

    // ---- promise 12

    @Says("Throws `IllegalArgumentException` if what is out of range")
    static void promise12_value_whatFrom0To7() {
        int[] due = {6, 4, 2, 0, 6, 1, 5, 1};
        EdgeHolders x = Scenes.busy();
        for (int what = 0; what < 8; what++) {
            check.due("value " + what, due[what], x.value(what));
        }
        check.refused("what is 8", Check.ARGUMENT, Scenes::busy, y -> y.value(8));
        check.refused("what is -1", Check.ARGUMENT, Scenes::busy, y -> y.value(-1));
        check.refused("what is 8, fresh", Check.ARGUMENT, Scenes::fresh, y -> y.value(8));
        for (int what : Scenes.FAR) {
            check.dueThrow("what is " + what, x, Check.ARGUMENT, () -> x.value(what));
        }
    }

    @Says("2 the greatest load, 3 the least load, 4 the sum of the squares of all loads")
    static void promise12_value_fortyEdgesOfOneNode() {
        EdgeHolders x = Scenes.fortyOfOne();
        int[] due = {2, 40, 40, 0, 1600, 20, 40, 1};
        for (int what = 0; what < 8; what++) {
            check.due("value " + what, due[what], x.value(what));
        }
    }

    @Says("2 the greatest load, 3 the least load")
    static void promise12_value_allLoadsTheSame() {
        EdgeHolders x = Scenes.pair(40);
        check.dueRow("greatest, least, squares", Check.row(20, 20, 800), Check.row(x.value(2), x.value(3), x.value(4)));
        EdgeHolders y = Scenes.held(3, "ab", "bc", "ca");
        check.dueRow("greatest and least of a ring", Check.row(1, 1, 3), Check.row(y.value(2), y.value(3), y.value(4)));
    }

    @Says("2 the greatest load, 3 the least load")
    static void promise12_value_atTheFirstAndTheLastNode() {
        EdgeHolders first = Scenes.held(3, "ab", "ac", "bc", "cb");
        check.dueRow("the greatest is the first", Check.row(2, 1), Check.row(first.value(2), first.value(3)));
        EdgeHolders last = Scenes.held(3, "ca", "cb", "ab", "ba");
        check.dueRow("the greatest is the last", Check.row(2, 1), Check.row(last.value(2), last.value(3)));
        EdgeHolders least = Scenes.held(3, "ab", "ac", "ba", "bc", "ca");
        check.dueRow("the least is the last", Check.row(2, 1), Check.row(least.value(2), least.value(3)));
        EdgeHolders other = Scenes.held(3, "cb", "ca", "ba", "bc", "ac");
        check.dueRow("the least is the first", Check.row(2, 1), Check.row(other.value(2), other.value(3)));
    }

    @Says("an edge that was turned twice counts twice")
    static void promise12_value_turnedEdges() {
        EdgeHolders x = Scenes.held(2, "ab", "ba");
        check.due("none", 0, x.value(5));
        x.turn(0);
        check.due("one", 1, x.value(5));
        x.turn(0);
        check.due("the same again", 2, x.value(5));
        x.remove(0);
        check.due("a removed edge stays counted", 2, x.value(5));
        x.remove(1);
        check.due("without edges", 2, x.value(5));
    }

    @Says("6 the number that the next edge gets")
    static void promise12_value_nextNumber() {
        check.due("at first", 0, new EdgeHolders().value(6));
        check.due("at forty edges", 40, Scenes.pair(40).value(6));
        EdgeHolders x = Scenes.pair(1);
        x.remove(0);
        check.due("behind a remove", 1, x.value(6));
        check.due("as add says", 1, x.add(0, 1));
    }

    @Says("7 the nodes whose load is greater than their capacity")
    static void promise12_value_aLoadAsGreatAsItsCapacityIsNotGreater() {
        EdgeHolders x = Scenes.held(3, "ab", "ab", "ab", "ab");
        check.due("4 of 3", 1, x.value(7));
        x.setCapacity(0, 4);
        check.due("4 of 4", 0, x.value(7));
        x.setCapacity(1, 0);
        x.setCapacity(2, 0);
        check.due("0 of 0", 0, x.value(7));
        x.turn(0);
        check.due("1 of 0", 1, x.value(7));
        x.setCapacity(0, 2);
        check.due("two nodes", 2, x.value(7));
        EdgeHolders full = Scenes.fortyOfOne();
        full.setCapacity(0, 40);
        check.due("40 of 40", 0, full.value(7));
        full.setCapacity(0, 39);
        check.due("40 of 39", 1, full.value(7));
    }
}
