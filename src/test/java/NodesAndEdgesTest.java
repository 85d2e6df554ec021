/** Promises 1 to 8: a new object, begin, add, remove, turn, relieve, balance, setCapacity. */
public final class NodesAndEdgesTest {
    private static final Check check = new Check();

    public static void main(String[] args) {
        Cases.run(NodesAndEdgesTest.class, check, 1, 8);
        check.end();
    }

    @Says({
        "`EdgeHolders()`: Creates 6 nodes without edges.",
        "There are 2 to 12 nodes, initially 6, numbered from 0"})
    static void promise01_newObject_startsAnew() {
        EdgeHolders x = new EdgeHolders();
        check.due("NONE", -1, EdgeHolders.NONE);
        int[] values = {6, 0, 0, 0, 0, 0, 0, 0};
        for (int what = 0; what < values.length; what++) {
            check.due("new: value " + what, values[what], x.value(what));
        }
        check.dueRow("new: loads", Check.row(0, 0, 0, 0, 0, 0), Check.loads(x));
        check.dueRow("new: capacities", Check.row(3, 3, 3, 3, 3, 3), Check.nodeValues(x, 2));
        check.due("new: text", 0, x.clearText());
        check.dueThrow("new: undo", x, Check.STATE, x::undo);
        EdgeHolders other = new EdgeHolders();
        x.add(0, 1);
        check.due("another object has its own edges", 0, other.value(1));
    }

    @Says({
        "Begins with other nodes",
        "Returns the edges that there were."})
    static void promise02_begin_withOtherNodes() {
        EdgeHolders x = Check.withEdges(6, "ab", "bc", "ab");
        x.turn(0);
        x.setCapacity(2, 9);
        check.due("begin with edges", 3, x.begin(12));
        int[] values = {12, 0, 0, 0, 0, 0, 0, 0};
        for (int what = 0; what < values.length; what++) {
            check.due("begin: value " + what, values[what], x.value(what));
        }
        check.dueRow("begin: capacities", Check.row(3, 3, 3, 3, 3, 3, 3, 3, 3, 3, 3, 3), Check.nodeValues(x, 2));
        check.due("begin: saved states stay", 3, x.undo());
        check.due("begin: undone", 3, x.value(1));
        check.due("begin: undone capacity", 9, x.node(2, 2));
        check.due("begin(2)", 3, x.begin(2));
        check.due("begin(2) again", 0, x.begin(2));
        check.due("the first number after begin", 0, x.add(1, 0));
        check.due("begin keeps the text", 0, x.clearText());
        x.append('b');
        x.begin(7);
        check.due("begin keeps the text", 1, x.clearText());
        for (int nodes : new int[] {1, 0, -1, 13, Integer.MIN_VALUE, Integer.MAX_VALUE}) {
            check.dueThrow("begin(" + nodes + ")", x, Check.ARGUMENT, () -> x.begin(nodes));
        }
    }

    @Says("there are no edges, all capacities are 3, and all numbers and counts are as at first")
    static void promise02_begin_forgetsEverything() {
        for (int nodes = 12; nodes >= 2; nodes--) {
            EdgeHolders x = Check.withEdges(12);
            for (int edge = 0; edge < 40; edge++) {
                x.turn(x.add(edge % 7, 7 + edge % 5));
            }
            x.densest();
            x.tooDense();
            x.path(0, 8);
            x.begin(nodes);
            check.due("no edges: densest", (1 << nodes) - 1, x.densest());
            check.due("no edges: least", 0, x.least());
            EdgeHolders y = new EdgeHolders();
            for (EdgeHolders each : new EdgeHolders[] {x, y}) {
                each.begin(nodes);
                each.balance();
                each.add(0, 1);
                each.setCapacity(1, 0);
                each.setCapacity(0, 0);
            }
            check.that("as a new object with " + nodes + " nodes", Check.picture(x).equals(Check.picture(y)));
            check.due("critical", 0, x.critical());
            check.dueRow("least with one more, and without it", Check.row(1, 0), Check.row(x.leastWith(1, 0), x.leastWithout(0)));
        }
    }

    @Says({
        "Adds an edge.",
        "Returns its number.",
        "An edge joins two different nodes, its first and its second end",
        "numbered from 0 in the order in which they were added; a number is not used again, but by undo()"})
    static void promise03_add_anEdge() {
        EdgeHolders x = new EdgeHolders();
        check.due("the first edge", 0, x.add(2, 4));
        check.due("the second edge", 1, x.add(4, 2));
        check.dueRow("first ends", Check.row(2, 4), Check.edgeValues(x, 0));
        check.dueRow("second ends", Check.row(4, 2), Check.edgeValues(x, 1));
        x.remove(1);
        check.due("a number is not used again", 2, x.add(0, 5));
        x.undo();
        check.due("but by undo", 2, x.add(0, 5));
        x.undo();
        x.undo();
        x.undo();
        check.due("but by undo of several", 1, x.add(0, 5));
        x.turn(1);
        x.remove(1);
        x.add(3, 4);
        check.due("a new edge was never turned", 0, x.edge(2, 3));
    }

    @Says({
        "When an edge is added, it is held by the end with the lesser load; if both loads are the same, by its first end.",
        "Each edge is held by one of its ends."})
    static void promise03_add_byLoads() {
        EdgeHolders x = new EdgeHolders();
        x.add(0, 1);
        check.due("same loads: the first end", 0, x.edge(0, 2));
        x.add(0, 1);
        check.due("the second has the lesser load", 1, x.edge(1, 2));
        x.add(1, 0);
        check.due("same loads again: the first end", 1, x.edge(2, 2));
        x.add(1, 2);
        check.due("the second has no load", 2, x.edge(3, 2));
        x.add(0, 1);
        check.due("the first has the lesser load", 0, x.edge(4, 2));
        check.dueRow("loads", Check.row(2, 2, 1, 0, 0, 0), Check.loads(x));
        check.dueRow("adding turns nothing", Check.row(0, 0, 0, 0, 0), Check.edgeValues(x, 3));
    }

    @Says({
        "Throws `IndexOutOfBoundsException` if there is no such node",
        "Throws `IllegalArgumentException` if both are the same",
        "Throws `IllegalStateException` if there are 40 edges"})
    static void promise03_add_wrongly() {
        EdgeHolders x = Check.withEdges(4, "ab");
        check.dueThrow("add(4, 0)", x, Check.INDEX, () -> x.add(4, 0));
        check.dueThrow("add(0, 4)", x, Check.INDEX, () -> x.add(0, 4));
        check.dueThrow("add(-1, 0)", x, Check.INDEX, () -> x.add(-1, 0));
        check.dueThrow("add(0, -1)", x, Check.INDEX, () -> x.add(0, -1));
        check.dueThrow("no node comes before both the same", x, Check.INDEX, () -> x.add(4, 4));
        check.dueThrow("add(3, 3)", x, Check.ARGUMENT, () -> x.add(3, 3));
        for (int edge = 1; edge < 40; edge++) {
            check.due("add", edge, x.add(edge % 4, (edge + 1) % 4));
        }
        check.dueThrow("a 41st edge", x, Check.STATE, () -> x.add(0, 1));
        check.dueThrow("both the same comes before 40 edges", x, Check.ARGUMENT, () -> x.add(1, 1));
        check.dueThrow("no node comes before 40 edges", x, Check.INDEX, () -> x.add(1, 4));
        x.remove(7);
        check.due("room again", 40, x.add(2, 3));
        check.due("40 edges", 40, x.value(1));
        check.dueRow("the last edge of 40", Check.row(2, 3), Check.row(x.edge(40, 0), x.edge(40, 1)));
        x.remove(20);
        check.dueRow("the last edge of 39", Check.row(2, 3), Check.row(x.edge(40, 0), x.edge(40, 1)));
        check.due("its number", 40, x.edgeAt(38));
    }

    @Says({
        "Removes an edge.",
        "Returns the node that held it.",
        "Throws `NoSuchElementException` if there is no such edge"})
    static void promise04_remove_anEdge() {
        EdgeHolders x = Check.withEdges(6, "ab", "ab", "bc", "cd");
        check.dueRow("held before", Check.row(0, 1, 2, 3), Check.edgeValues(x, 2));
        x.turn(0);
        check.due("remove an edge that was turned", 1, x.remove(0));
        check.due("remove in the middle", 2, x.remove(2));
        check.dueRow("loads", Check.row(0, 1, 0, 1, 0, 0), Check.loads(x));
        check.dueRow("the others stay", Check.row(1, 3), Check.row(x.edgeAt(0), x.edgeAt(1)));
        check.dueRow("their first ends", Check.row(0, 2), Check.edgeValues(x, 0));
        check.dueRow("their second ends", Check.row(1, 3), Check.edgeValues(x, 1));
        check.dueRow("their holders", Check.row(1, 3), Check.edgeValues(x, 2));
        check.due("turned edges stay counted", 1, x.value(5));
        check.due("the next number stays", 4, x.value(6));
        for (int edge : new int[] {0, 2, 4, -1, Integer.MAX_VALUE, Integer.MIN_VALUE}) {
            check.dueThrow("remove(" + edge + ")", x, Check.ELEMENT, () -> x.remove(edge));
        }
        x.remove(3);
        x.remove(1);
        check.due("no edges", 0, x.value(1));
        x.undo();
        check.due("remove is undoable", 1, x.edgeAt(0));
    }

    @Says({
        "Turns an edge.",
        "Returns the node that holds it then.",
        "Throws `NoSuchElementException` if there is no such edge"})
    static void promise05_turn_anEdge() {
        EdgeHolders x = Check.withEdges(3, "ab", "cb");
        check.due("turn to the second end", 1, x.turn(0));
        check.due("turn back", 0, x.turn(0));
        check.due("turn another one", 1, x.turn(1));
        check.dueRow("loads", Check.row(1, 1, 0), Check.loads(x));
        check.dueRow("how often", Check.row(2, 1), Check.edgeValues(x, 3));
        check.due("turned in all", 3, x.value(5));
        x.undo();
        check.dueRow("turn is undoable", Check.row(0, 2), Check.edgeValues(x, 2));
        check.dueRow("turn is undoable: how often", Check.row(2, 0), Check.edgeValues(x, 3));
        check.due("turn is undoable: in all", 2, x.value(5));
        for (int edge : new int[] {2, -1, Integer.MAX_VALUE}) {
            check.dueThrow("turn(" + edge + ")", x, Check.ELEMENT, () -> x.turn(edge));
        }
    }

    @Says({
        "Relieves a node.",
        "of the nodes that are visited from u on, the first one in the order of visiting whose load is at most the load of u minus 2 is taken as v, and the path to it is turned"})
    static void promise06_relieve_aNode() {
        EdgeHolders x = Check.withEdges(3, "ab", "ab", "ab", "bc");
        check.dueRow("loads before", Check.row(2, 1, 1), Check.loads(x));
        check.dueThrow("a load less by one is not enough", x, Check.STATE, () -> x.relieve(0));
        x.turn(3);
        x.turn(1);
        check.dueRow("loads then", Check.row(3, 1, 0), Check.loads(x));
        check.due("the first in the order of visiting, not the least", 1, x.relieve(0));
        check.dueRow("loads relieved", Check.row(2, 2, 0), Check.loads(x));
        check.dueRow("the lowest edge is turned", Check.row(1, 0, 0, 1), Check.edgeValues(x, 2));
        check.due("now along two edges", 2, x.relieve(0));
        check.dueRow("loads relieved twice", Check.row(1, 2, 1), Check.loads(x));
        check.due("turned in all", 5, x.value(5));
        x.undo();
        check.dueRow("relieve is undoable", Check.row(2, 2, 0), Check.loads(x));
    }

    @Says({
        "To turn a path means to turn all its edges: the load of u falls by 1, that of v grows by 1, all others stay.",
        "Returns the number of edges that are turned."})
    static void promise06_relieve_alongPaths() {
        // a holds two; b, c, d hold one each in a row; e holds none
        EdgeHolders x = Check.withEdges(6, "ab", "bc", "cd", "de", "af");
        check.dueRow("loads before", Check.row(1, 1, 1, 1, 0, 1), Check.loads(x));
        x.turn(4);
        x.add(5, 0);
        check.dueRow("loads then", Check.row(2, 1, 1, 1, 0, 1), Check.loads(x));
        check.due("along four edges", 4, x.relieve(0));
        check.dueRow("only the ends differ", Check.row(1, 1, 1, 1, 1, 1), Check.loads(x));
        check.dueRow("holders", Check.row(1, 2, 3, 4, 0, 5), Check.edgeValues(x, 2));
        check.dueRow("turnings", Check.row(1, 1, 1, 1, 1, 0), Check.edgeValues(x, 3));
    }

    @Says({
        "Throws `IndexOutOfBoundsException` if there is no such node",
        "Throws `IllegalStateException` if it cannot be relieved"})
    static void promise06_relieve_wrongly() {
        EdgeHolders x = Check.withEdges(3, "ab", "ab", "ab");
        check.dueThrow("relieve(3)", x, Check.INDEX, () -> x.relieve(3));
        check.dueThrow("relieve(-1)", x, Check.INDEX, () -> x.relieve(-1));
        check.dueThrow("no load", x, Check.STATE, () -> x.relieve(2));
        check.dueThrow("no light node is visited", x, Check.STATE, () -> x.relieve(0));
        EdgeHolders y = Check.withEdges(3, "ab", "bc");
        check.due("all three are visited", 2, y.path(0, 2));
        y.begin(3);
        for (int edge = 0; edge < 3; edge++) {
            y.add(0, 1);
        }
        check.dueThrow("nodes that were visited earlier do not count", y, Check.STATE, () -> y.relieve(0));
    }

    @Says({
        "Balances.",
        "Returns the number of nodes that are relieved (a node that is relieved twice counts twice)."})
    static void promise07_balance_someNodes() {
        EdgeHolders x = Check.withEdges(4, "ab", "ac", "ad");
        x.turn(1);
        x.turn(2);
        check.dueRow("loads before", Check.row(3, 0, 0, 0), Check.loads(x));
        check.due("a node that is relieved twice counts twice", 2, x.balance());
        check.dueRow("loads", Check.row(1, 1, 1, 0), Check.loads(x));
        check.due("turned", 4, x.value(5));
        check.due("nothing is left to do", 0, x.balance());
        x.undo();
        check.dueRow("an undo of nothing", Check.row(1, 1, 1, 0), Check.loads(x));
        x.undo();
        check.dueRow("balance is undoable", Check.row(3, 0, 0, 0), Check.loads(x));
        EdgeHolders none = new EdgeHolders();
        EdgeHolders back = Check.withEdges(2, "ba", "ba", "ba");
        back.turn(1);
        check.dueRow("all on the last node", Check.row(0, 3), Check.loads(back));
        check.due("relieved to the node 0", 1, back.balance());
        check.dueRow("loads then", Check.row(1, 2), Check.loads(back));
        check.due("without edges", 0, none.balance());
        check.due("that saves, too", 0, none.undo());
    }

    @Says("as long as some node with the greatest load of all can be relieved, the one with the lowest number of those that can is relieved")
    static void promise07_balance_whenTheLowestCannot() {
        // a and b hold two each and reach nobody else; e holds two and can be relieved
        EdgeHolders x = Check.withEdges(6, "ab", "ab", "ab", "ab", "ef", "ef");
        x.turn(5);
        check.dueRow("loads before", Check.row(2, 2, 0, 0, 2, 0), Check.loads(x));
        check.due("another one of the heaviest", 1, x.balance());
        check.dueRow("loads", Check.row(2, 2, 0, 0, 1, 1), Check.loads(x));
        // only the heaviest are relieved: e could be, but a and b cannot
        EdgeHolders y = Check.withEdges(6, "ab", "ab", "ab", "ab", "ab", "ab", "ef", "ef");
        y.turn(7);
        check.due("nobody of the heaviest", 0, y.balance());
        check.dueRow("loads stay", Check.row(3, 3, 0, 0, 2, 0), Check.loads(y));
        // of two that can be relieved the lowest is first: the edge 2 goes from a, not from b
        EdgeHolders z = Check.withEdges(3, "ac", "bc", "ac", "bc");
        check.dueRow("holders before", Check.row(0, 1, 2, 1), Check.edgeValues(z, 2));
        z.turn(2);
        check.due("the lowest first", 1, z.balance() - z.balance());
        check.dueRow("holders", Check.row(2, 1, 0, 1), Check.edgeValues(z, 2));
    }

    @Says({
        "Sets a capacity.",
        "Returns the previous capacity.",
        "Throws `IndexOutOfBoundsException` if there is no such node",
        "Throws `IllegalArgumentException` if capacity is out of range"})
    static void promise08_setCapacity_ofANode() {
        EdgeHolders x = Check.withEdges(3, "ab", "ab");
        check.due("the capacity at first", 3, x.setCapacity(0, 0));
        check.due("the one before", 0, x.setCapacity(0, 40));
        check.due("again", 40, x.setCapacity(0, 7));
        check.dueRow("capacities", Check.row(7, 3, 3), Check.nodeValues(x, 2));
        x.undo();
        check.dueRow("setCapacity is undoable", Check.row(40, 3, 3), Check.nodeValues(x, 2));
        check.dueThrow("setCapacity(3, 1)", x, Check.INDEX, () -> x.setCapacity(3, 1));
        check.dueThrow("setCapacity(-1, 1)", x, Check.INDEX, () -> x.setCapacity(-1, 1));
        check.dueThrow("setCapacity(0, 41)", x, Check.ARGUMENT, () -> x.setCapacity(0, 41));
        check.dueThrow("setCapacity(0, -1)", x, Check.ARGUMENT, () -> x.setCapacity(0, -1));
        check.dueThrow("no node comes first", x, Check.INDEX, () -> x.setCapacity(3, 41));
    }

    /** Behind the call and undo all answers are as before the call, but not behind the call alone. */
    private static void dueUndoable(Check.Deed call) {
        Look.dueAlike(check, "undone", Scenes::one, () -> {
            EdgeHolders x = Scenes.one();
            call.to(x);
            check.due("the saved states that remain", 1, x.undo());
            return x;
        });
        EdgeHolders x = Scenes.one();
        String before = Check.picture(x);
        call.to(x);
        check.that("the call changes something", !before.equals(Check.picture(x)));
    }

    @Says("Undoable.")
    static void promise02_begin_isUndoable() {
        dueUndoable(x -> x.begin(2));
    }

    @Says("Undoable.")
    static void promise03_add_isUndoable() {
        dueUndoable(x -> x.add(4, 5));
    }

    @Says("Undoable.")
    static void promise04_remove_isUndoable() {
        dueUndoable(x -> x.remove(1));
    }

    @Says("Undoable.")
    static void promise05_turn_isUndoable() {
        dueUndoable(x -> x.turn(0));
    }

    @Says("Undoable.")
    static void promise06_relieve_isUndoable() {
        dueUndoable(x -> x.relieve(0));
    }

    @Says("Undoable.")
    static void promise07_balance_isUndoable() {
        dueUndoable(EdgeHolders::balance);
    }

    @Says("Undoable.")
    static void promise08_setCapacity_isUndoable() {
        dueUndoable(x -> x.setCapacity(0, 0));
    }
}
