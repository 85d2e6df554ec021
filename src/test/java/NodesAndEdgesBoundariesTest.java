/** The boundary cases of the promises 1 to 8: a new object, begin, add, remove, turn, relieve, balance, setCapacity. */
public final class NodesAndEdgesBoundariesTest {
    private static final Check check = new Check();

    public static void main(String[] args) {
        Cases.run(NodesAndEdgesBoundariesTest.class, check, 1, 8);
        check.end();
    }

    // ---- promise 1

    @Says("Creates 6 nodes without edges.")
    static void promise01_newObject_hasSixNodes() {
        EdgeHolders x = new EdgeHolders();
        check.due("nodes", 6, x.value(0));
        check.due("the first node", 0, x.node(0, 0));
        check.due("the last node", 0, x.node(5, 0));
        check.due("all nodes", 63, x.densest());
        check.refused("a seventh node", Check.INDEX, Scenes::fresh, y -> y.node(6, 0));
        check.refused("a node before the first", Check.INDEX, Scenes::fresh, y -> y.node(-1, 0));
    }

    @Says("Creates 6 nodes without edges.")
    static void promise01_newObject_hasNoEdges() {
        EdgeHolders x = new EdgeHolders();
        check.dueRow("values", Check.row(6, 0, 0, 0, 0, 0, 0, 0), values(x));
        check.dueRow("loads", Scenes.times(0, 6), Check.nodeValues(x, 0));
        check.dueRow("edges of nodes", Scenes.times(0, 6), Check.nodeValues(x, 1));
        check.dueRow("joined with nobody", Scenes.times(0, 6), Check.nodeValues(x, 3));
        check.dueRow("visited is the node alone", Check.row(1, 2, 4, 8, 16, 32), Check.nodeValues(x, 4));
        check.refused("a first edge", Check.INDEX, Scenes::fresh, y -> y.edgeAt(0));
        check.refused("the edge 0", Check.ELEMENT, Scenes::fresh, y -> y.edge(0, 0));
    }

    @Says("Each node has a capacity, 0 to 40, initially 3.")
    static void promise01_newObject_hasCapacitiesOf3() {
        check.dueRow("capacities", Scenes.times(3, 6), Check.nodeValues(new EdgeHolders(), 2));
    }

    @Says("The text has at most 100 bytes.")
    static void promise01_newObject_hasNoText() {
        check.due("length", 0, new EdgeHolders().clearText());
        check.due("orders", 0, new EdgeHolders().carryOut());
        check.due("the length with a first byte", 1, new EdgeHolders().append('b'));
    }

    @Says("if there is no saved state")
    static void promise01_newObject_hasNoSavedState() {
        check.refused("undo", Check.STATE, Scenes::fresh, EdgeHolders::undo);
    }

    @Says("`NONE = -1`: There is no such thing.")
    static void promise01_none_isMinusOne() {
        check.due("NONE", -1, EdgeHolders.NONE);
    }

    @Says("An object is used for at most 512 calls after it has been made")
    static void promise01_newObject_answersThe512thCall() {
        EdgeHolders turned = new EdgeHolders();
        turned.add(0, 1);
        for (int call = 2; call <= 511; call++) {
            check.due("holder in the call " + call, 1 - call % 2, turned.turn(0));
        }
        check.due("turnings as the 512th call", 510, turned.value(5));
        EdgeHolders changing = new EdgeHolders();
        for (int edge = 0; edge < 255; edge++) {
            check.due("the number of an edge", edge, changing.add(2, 3));
            check.due("held by its first end", 2, changing.remove(edge));
        }
        check.due("the edge 255", 255, changing.add(2, 3));
        check.due("the 512th call", 3, changing.turn(255));
        EdgeHolders back = new EdgeHolders();
        for (int call = 1; call <= 511; call += 7) {
            for (int more = 0; more < 5; more++) {
                check.due("a save that changes nothing", 0, back.balance());
            }
            check.due("undo", 3, back.undo());
            check.due("undo again", 2, back.undo());
        }
        check.due("undo as the 512th call", 1, back.undo());
    }

    // ---- promise 2

    @Says("2 to 12 nodes")
    static void promise02_begin_twoNodesAreAllowed() {
        EdgeHolders x = new EdgeHolders();
        check.due("begin(2)", 0, x.begin(2));
        check.due("nodes", 2, x.value(0));
        check.due("the last node", 3, x.node(1, 2));
        check.due("an edge between both", 0, x.add(1, 0));
        check.due("all nodes", 3, x.densest());
        check.refused("a third node", Check.INDEX, () -> Scenes.pair(3), y -> y.node(2, 0));
        check.refused("an edge to a third node", Check.INDEX, () -> Scenes.pair(3), y -> y.add(0, 2));
    }

    @Says("Throws `IllegalArgumentException` if nodes is out of range")
    static void promise02_begin_oneNodeIsRefused() {
        check.refused("begin(1), fresh", Check.ARGUMENT, Scenes::fresh, x -> x.begin(1));
        check.refused("begin(1), busy", Check.ARGUMENT, Scenes::busy, x -> x.begin(1));
        check.refused("begin(0)", Check.ARGUMENT, Scenes::busy, x -> x.begin(0));
        check.refused("begin(-1)", Check.ARGUMENT, Scenes::busy, x -> x.begin(-1));
    }

    @Says("2 to 12 nodes")
    static void promise02_begin_twelveNodesAreAllowed() {
        EdgeHolders x = new EdgeHolders();
        check.due("begin(12)", 0, x.begin(12));
        check.due("nodes", 12, x.value(0));
        check.due("the last node", 2048, x.node(11, 4));
        check.due("an edge of the last nodes", 0, x.add(11, 10));
        check.refused("a thirteenth node", Check.INDEX, Scenes::full, y -> y.node(12, 0));
    }

    @Says("Throws `IllegalArgumentException` if nodes is out of range")
    static void promise02_begin_thirteenNodesAreRefused() {
        check.refused("begin(13), fresh", Check.ARGUMENT, Scenes::fresh, x -> x.begin(13));
        check.refused("begin(13), full", Check.ARGUMENT, Scenes::full, x -> x.begin(13));
        for (int nodes : Scenes.FAR) {
            EdgeHolders x = Scenes.busy();
            check.dueThrow("begin(" + nodes + ")", x, Check.ARGUMENT, () -> x.begin(nodes));
        }
    }

    @Says("2 to 12 nodes")
    static void promise02_begin_eachNumberOfNodesIsAllowed() {
        for (int nodes = 2; nodes <= 12; nodes++) {
            EdgeHolders x = new EdgeHolders();
            x.begin(nodes);
            int none = nodes;
            check.due("nodes", nodes, x.value(0));
            check.due("all nodes", (1 << nodes) - 1, x.densest());
            check.due("the last one", 1 << nodes - 1, x.node(nodes - 1, 4));
            check.dueThrow("one more", x, Check.INDEX, () -> x.node(none, 4));
        }
    }

    @Says("Returns the edges that there were.")
    static void promise02_begin_returnsNoneOneAndFortyEdges() {
        check.due("without edges", 0, new EdgeHolders().begin(6));
        check.due("with one edge", 1, Scenes.pair(1).begin(6));
        EdgeHolders full = Scenes.full();
        check.due("with forty edges", 40, full.begin(12));
        check.due("without edges then", 0, full.begin(12));
    }

    @Says("there are no edges, all capacities are 3, and all numbers and counts are as at first")
    static void promise02_begin_leavesNothingOfBefore() {
        for (int nodes : new int[] {2, 6, 11, 12}) {
            EdgeHolders x = Scenes.full();
            for (int edge = 0; edge < 40; edge++) {
                x.turn(edge);
            }
            x.setCapacity(0, 0);
            x.setCapacity(11, 40);
            x.begin(nodes);
            check.dueRow("values", Check.row(nodes, 0, 0, 0, 0, 0, 0, 0), values(x));
            check.dueRow("loads", Scenes.times(0, nodes), Check.nodeValues(x, 0));
            check.dueRow("capacities", Scenes.times(3, nodes), Check.nodeValues(x, 2));
            check.dueRow("joined with nobody", Scenes.times(0, nodes), Check.nodeValues(x, 3));
            check.dueThrow("the edge 0 of before", x, Check.ELEMENT, () -> x.edge(0, 0));
            check.dueThrow("the edge 39 of before", x, Check.ELEMENT, () -> x.remove(39));
            check.due("the first number", 0, x.add(0, 1));
            check.due("held by its first end, as no load is left", 0, x.edge(0, 2));
            check.due("not turned", 0, x.edge(0, 3));
        }
    }

    @Says("all capacities are 3")
    static void promise02_begin_nodesThatComeBackHaveCapacity3() {
        EdgeHolders x = new EdgeHolders();
        x.begin(12);
        x.setCapacity(11, 0);
        x.setCapacity(2, 40);
        x.begin(2);
        x.begin(12);
        check.dueRow("capacities", Scenes.times(3, 12), Check.nodeValues(x, 2));
    }

    @Says("there are no edges")
    static void promise02_begin_fortyEdgesHaveRoomAgain() {
        EdgeHolders x = Scenes.pair(40);
        x.begin(2);
        for (int edge = 0; edge < 40; edge++) {
            check.due("add", edge, x.add(1, 0));
        }
        check.dueThrow("one more", x, Check.STATE, () -> x.add(1, 0));
    }

    @Says("The saved state contains everything except the text.")
    static void promise02_begin_keepsTextAndSavedStates() {
        EdgeHolders x = Scenes.full();
        x.begin(2);
        check.due("the saved states are four", 3, x.undo());
        x.begin(2);
        check.due("the text stays", 100, x.clearText());
    }

    // ---- promise 3

    @Says("Throws `IndexOutOfBoundsException` if there is no such node")
    static void promise03_add_nodesFromFirstToLast() {
        EdgeHolders x = new EdgeHolders();
        check.due("first to last", 0, x.add(0, 5));
        check.due("last to first", 1, x.add(5, 0));
        check.dueRow("first ends", Check.row(0, 5), Check.edgeValues(x, 0));
        check.dueRow("second ends", Check.row(5, 0), Check.edgeValues(x, 1));
        check.refused("add(6, 0)", Check.INDEX, Scenes::busy, y -> y.add(6, 0));
        check.refused("add(0, 6)", Check.INDEX, Scenes::busy, y -> y.add(0, 6));
        check.refused("add(-1, 0)", Check.INDEX, Scenes::busy, y -> y.add(-1, 0));
        check.refused("add(0, -1)", Check.INDEX, Scenes::busy, y -> y.add(0, -1));
        check.refused("add(6, 0), fresh", Check.INDEX, Scenes::fresh, y -> y.add(6, 0));
        for (int node : Scenes.FAR) {
            EdgeHolders y = Scenes.busy();
            check.dueThrow("first is " + node, y, Check.INDEX, () -> y.add(node, 1));
            check.dueThrow("second is " + node, y, Check.INDEX, () -> y.add(1, node));
        }
    }

    @Says("Throws `IllegalArgumentException` if both are the same")
    static void promise03_add_bothTheSameIsRefused() {
        check.refused("add(0, 0)", Check.ARGUMENT, Scenes::busy, x -> x.add(0, 0));
        check.refused("add(5, 5)", Check.ARGUMENT, Scenes::busy, x -> x.add(5, 5));
        check.refused("add(0, 0), fresh", Check.ARGUMENT, Scenes::fresh, x -> x.add(0, 0));
        check.refused("add(11, 11)", Check.ARGUMENT, () -> Scenes.held(12, "ab"), x -> x.add(11, 11));
    }

    @Says("There are at most 40, numbered from 0 in the order in which they were added")
    static void promise03_add_theFortiethEdgeIsAllowed() {
        EdgeHolders x = Scenes.pair(39);
        check.due("edges before", 39, x.value(1));
        check.due("the fortieth edge", 39, x.add(1, 0));
        check.due("edges", 40, x.value(1));
        check.dueRow("it is the last one", Check.row(39, 1, 0), Check.row(x.edgeAt(39), x.edge(39, 0), x.edge(39, 1)));
        EdgeHolders all = Scenes.pair(40);
        for (int index = 0; index < 40; index++) {
            check.due("numbers in the order of adding", index, all.edgeAt(index));
        }
    }

    @Says("Throws `IllegalStateException` if there are 40 edges")
    static void promise03_add_theFortyFirstEdgeIsRefused() {
        check.refused("add at 40 edges", Check.STATE, () -> Scenes.pair(40), x -> x.add(0, 1));
        check.refused("add at 40 edges between others", Check.STATE, Scenes::full, x -> x.add(3, 8));
    }

    @Says("Throws `IllegalStateException` if there are 40 edges")
    static void promise03_add_atFortyEdgesThereIsRoomBehindARemove() {
        EdgeHolders x = Scenes.pair(40);
        x.remove(39);
        check.due("the number 39 is not used again", 40, x.add(0, 1));
        check.dueThrow("full again", x, Check.STATE, () -> x.add(0, 1));
        x.remove(0);
        check.due("the number 0 is not used again", 41, x.add(0, 1));
        check.dueThrow("and full again", x, Check.STATE, () -> x.add(0, 1));
        check.due("the lowest", 1, x.edgeAt(0));
        check.due("the highest", 41, x.edgeAt(39));
    }

    @Says("a number is not used again, but by undo()")
    static void promise03_add_aNumberIsNotUsedAgain() {
        EdgeHolders x = Scenes.pair(2);
        x.remove(1);
        check.due("behind the removed highest", 2, x.add(0, 1));
        x.remove(0);
        x.remove(2);
        check.due("no edges are left", 0, x.value(1));
        check.due("behind all removed", 3, x.add(0, 1));
        check.due("the next one", 4, x.value(6));
    }

    @Says("a number is not used again, but by undo()")
    static void promise03_add_aNumberIsUsedAgainByUndo() {
        EdgeHolders x = Scenes.pair(2);
        x.add(0, 1);
        x.undo();
        check.due("the next one", 2, x.value(6));
        check.due("used again", 2, x.add(1, 0));
        check.due("the new edge, not the old one", 1, x.edge(2, 0));
        x.remove(2);
        x.undo();
        check.due("an undone remove brings the number back", 2, x.edgeAt(2));
        check.due("the next one behind it", 3, x.add(1, 0));
    }

    @Says("If several exceptions apply, the one that is listed first is thrown.")
    static void promise03_add_ofSeveralExceptionsTheFirst() {
        check.refused("no node, both the same", Check.INDEX, Scenes::busy, x -> x.add(6, 6));
        check.refused("negative, both the same", Check.INDEX, Scenes::busy, x -> x.add(-1, -1));
        check.refused("no node, 40 edges", Check.INDEX, Scenes::full, x -> x.add(0, 12));
        check.refused("both the same, 40 edges", Check.ARGUMENT, Scenes::full, x -> x.add(4, 4));
        check.refused("all three", Check.INDEX, Scenes::full, x -> x.add(12, 12));
    }

    @Says("several edges can join the same nodes")
    static void promise03_add_fortyEdgesBetweenTheSameNodes() {
        EdgeHolders x = Scenes.pair(40);
        check.dueRow("loads", Check.row(20, 20), Check.nodeValues(x, 0));
        check.dueRow("edges of nodes", Check.row(40, 40), Check.nodeValues(x, 1));
        check.dueRow("joined with one", Check.row(1, 1), Check.nodeValues(x, 3));
    }

    @Says("it is held by the end with the lesser load")
    static void promise03_add_isHeldByTheLesserLoadByOne() {
        EdgeHolders second = Scenes.held(4, "ab", "ac", "ba");
        second.add(0, 1);
        check.due("2 and 1: the second end", 1, second.edge(3, 2));
        EdgeHolders first = Scenes.held(4, "ab", "ac", "ba");
        first.add(1, 0);
        check.due("1 and 2: the first end", 1, first.edge(3, 2));
        EdgeHolders none = Scenes.held(4, "ab");
        none.add(0, 3);
        check.due("1 and 0: the second end", 3, none.edge(1, 2));
    }

    @Says("if both loads are the same, by its first end")
    static void promise03_add_isHeldByTheFirstEndAtTheSameLoads() {
        EdgeHolders none = new EdgeHolders();
        none.add(5, 0);
        check.due("0 and 0", 5, none.edge(0, 2));
        EdgeHolders both = Scenes.held(4, "ab", "ba");
        both.add(1, 0);
        check.due("1 and 1, the higher node first", 1, both.edge(2, 2));
        both.undo();
        both.add(0, 1);
        check.due("1 and 1, the lower node first", 0, both.edge(2, 2));
        check.due("adding does not turn", 0, both.edge(2, 3));
        check.due("adding counts no turning", 0, both.value(5));
    }

    @Says("3 how often it was turned so far, by any method")
    static void promise03_add_aNewEdgeWasNeverTurned() {
        EdgeHolders x = Scenes.pair(40);
        x.turn(39);
        x.turn(38);
        x.remove(39);
        check.due("in the place of the fortieth", 0, x.edge(x.add(0, 1), 3));
        x.remove(38);
        x.remove(40);
        check.due("in the place before it", 0, x.edge(x.add(0, 1), 3));
        check.due("in the place of the fortieth again", 0, x.edge(x.add(0, 1), 3));
    }

    // ---- promises 4 and 5

    @Says("Throws `NoSuchElementException` if there is no such edge")
    static void promise04_remove_numbersFromLowestToHighest() {
        check.due("the lowest", 0, Scenes.busy().remove(0));
        check.due("the highest", 4, Scenes.busy().remove(4));
        check.refused("a number too high", Check.ELEMENT, Scenes::busy, x -> x.remove(5));
        check.refused("a number below", Check.ELEMENT, Scenes::busy, x -> x.remove(-1));
        check.refused("a number that was removed", Check.ELEMENT, Scenes::busy, x -> x.remove(3));
        check.refused("without edges", Check.ELEMENT, Scenes::fresh, x -> x.remove(0));
        check.refused("at 40 edges", Check.ELEMENT, Scenes::full, x -> x.remove(40));
        for (int edge : Scenes.FAR) {
            EdgeHolders x = Scenes.busy();
            check.dueThrow("remove(" + edge + ")", x, Check.ELEMENT, () -> x.remove(edge));
        }
    }

    @Says("There are at most 40")
    static void promise04_remove_theFirstAndTheLastOfForty() {
        EdgeHolders x = Scenes.pair(40);
        check.due("the last", 1, x.remove(39));
        check.due("the first", 0, x.remove(0));
        check.due("edges", 38, x.value(1));
        for (int index = 0; index < 38; index++) {
            check.due("edgeAt", index + 1, x.edgeAt(index));
            check.due("its holder", (index + 1) % 2, x.edge(index + 1, 2));
        }
        check.dueRow("loads", Check.row(19, 19), Check.nodeValues(x, 0));
    }

    @Says("numbered from 0 in the order in which they were added")
    static void promise04_remove_theOthersStayAsTheyAre() {
        for (int removed = 0; removed < 8; removed++) {
            EdgeHolders x = Scenes.pair(0);
            for (int edge = 0; edge < 8; edge++) {
                x.add(edge % 2, 1 - edge % 2);
                for (int turning = 0; turning < edge; turning++) {
                    x.turn(edge);
                }
            }
            int[] holders = Check.edgeValues(x, 2);
            x.remove(removed);
            for (int edge = 0; edge < 8; edge++) {
                if (edge != removed) {
                    check.due("number", edge, x.edgeAt(edge < removed ? edge : edge - 1));
                    check.due("first end", edge % 2, x.edge(edge, 0));
                    check.due("second end", 1 - edge % 2, x.edge(edge, 1));
                    check.due("holder", holders[edge], x.edge(edge, 2));
                    check.due("turnings", edge, x.edge(edge, 3));
                }
            }
            check.due("all turnings", 28, x.value(5));
        }
    }

    @Says("Returns the node that held it.")
    static void promise04_remove_theOnlyEdge() {
        EdgeHolders first = Scenes.held(3, "ab");
        check.due("held by the first end", 0, first.remove(0));
        check.dueRow("values", Check.row(3, 0, 0, 0, 0, 0, 1, 0), values(first));
        check.dueThrow("once more", first, Check.ELEMENT, () -> first.remove(0));
        EdgeHolders second = Scenes.held(3, "ab");
        second.turn(0);
        check.due("held by the second end", 1, second.remove(0));
        check.due("turned edges stay counted", 1, second.value(5));
        check.dueRow("loads", Check.row(0, 0, 0), Check.nodeValues(second, 0));
    }

    @Says("Throws `NoSuchElementException` if there is no such edge")
    static void promise05_turn_numbersFromLowestToHighest() {
        check.due("the lowest", 1, Scenes.busy().turn(0));
        check.due("the highest", 5, Scenes.busy().turn(4));
        check.refused("a number too high", Check.ELEMENT, Scenes::busy, x -> x.turn(5));
        check.refused("a number below", Check.ELEMENT, Scenes::busy, x -> x.turn(-1));
        check.refused("a number that was removed", Check.ELEMENT, Scenes::busy, x -> x.turn(3));
        check.refused("without edges", Check.ELEMENT, Scenes::fresh, x -> x.turn(0));
        check.refused("at 40 edges", Check.ELEMENT, Scenes::full, x -> x.turn(40));
        for (int edge : Scenes.FAR) {
            EdgeHolders x = Scenes.busy();
            check.dueThrow("turn(" + edge + ")", x, Check.ELEMENT, () -> x.turn(edge));
        }
    }

    @Says("To turn an edge means that its other end holds it then.")
    static void promise05_turn_toTheOtherEndAndBack() {
        EdgeHolders x = Scenes.pair(40);
        check.due("the first of forty", 1, x.turn(0));
        check.due("the last of forty", 0, x.turn(39));
        check.due("back", 0, x.turn(0));
        check.dueRow("loads", Check.row(21, 19), Check.nodeValues(x, 0));
        check.dueRow("turnings", Check.row(2, 0, 1), Check.row(x.edge(0, 3), x.edge(1, 3), x.edge(39, 3)));
        check.due("all turnings", 3, x.value(5));
        check.due("the edges stay", 40, x.value(1));
    }

    // ---- promise 6

    @Says("Throws `IndexOutOfBoundsException` if there is no such node")
    static void promise06_relieve_nodesFromFirstToLast() {
        check.due("the first node", 1, Scenes.held(2, "ab", "ab").relieve(0));
        check.due("the last node", 1, Scenes.held(2, "ba", "ba").relieve(1));
        check.due("the last of twelve", 1, Scenes.held(12, "lk", "lk").relieve(11));
        check.refused("a node too high", Check.INDEX, Scenes::busy, x -> x.relieve(6));
        check.refused("a node below", Check.INDEX, Scenes::busy, x -> x.relieve(-1));
        check.refused("a thirteenth node", Check.INDEX, Scenes::full, x -> x.relieve(12));
        for (int node : Scenes.FAR) {
            EdgeHolders x = Scenes.held(2, "ab", "ab");
            check.dueThrow("relieve(" + node + ")", x, Check.INDEX, () -> x.relieve(node));
        }
    }

    @Says("whose load is at most the load of u minus 2")
    static void promise06_relieve_aLoadLessByTwoIsEnough() {
        EdgeHolders x = Scenes.held(3, "ab", "ab", "ab", "bc");
        check.dueRow("3 and 1", Check.row(3, 1, 0), Check.nodeValues(x, 0));
        check.due("relieve", 1, x.relieve(0));
        check.dueRow("loads", Check.row(2, 2, 0), Check.nodeValues(x, 0));
        EdgeHolders none = Scenes.held(2, "ab", "ab");
        check.due("2 and 0", 1, none.relieve(0));
        check.dueRow("loads then", Check.row(1, 1), Check.nodeValues(none, 0));
    }

    @Says("This is not possible if there is no such node.")
    static void promise06_relieve_aLoadLessByOneIsNotEnough() {
        check.refused("1 and 0", Check.STATE, () -> Scenes.held(2, "ab"), x -> x.relieve(0));
        check.refused("2 and 1", Check.STATE, () -> Scenes.held(2, "ab", "ab", "ba"), x -> x.relieve(0));
        check.refused("the same loads", Check.STATE, () -> Scenes.held(2, "ab", "ba"), x -> x.relieve(0));
        check.refused("20 and 20", Check.STATE, () -> Scenes.pair(40), x -> x.relieve(1));
        check.refused("a greater load", Check.STATE, () -> Scenes.held(2, "ab", "ba", "ba"), x -> x.relieve(0));
    }

    @Says("Throws `IllegalStateException` if it cannot be relieved")
    static void promise06_relieve_nobodyIsVisited() {
        check.refused("without edges", Check.STATE, Scenes::fresh, x -> x.relieve(0));
        check.refused("without a load", Check.STATE, () -> Scenes.held(3, "ab", "ab", "cb"), x -> x.relieve(1));
        check.refused("a light node that is not visited", Check.STATE,
            () -> Scenes.held(3, "ab", "ab", "ab", "ba", "ba", "ca"), x -> x.relieve(0));
    }

    @Says("of the nodes that are visited from u on, the first one in the order of visiting")
    static void promise06_relieve_theFirstVisitedIsTaken() {
        EdgeHolders lower = Scenes.held(4, "ac", "ab", "ab");
        check.due("relieve", 1, lower.relieve(0));
        check.dueRow("visited first, not the lowest node", Check.row(2, 0, 1, 0), Check.nodeValues(lower, 0));
        EdgeHolders lighter = Scenes.held(4, "ab", "ac", "ac", "bd");
        check.due("relieve then", 1, lighter.relieve(0));
        check.dueRow("visited first, not the lightest", Check.row(2, 2, 0, 0), Check.nodeValues(lighter, 0));
        EdgeHolders near = Scenes.held(4, "ab", "ab", "bd", "ac");
        check.due("relieve at last", 1, near.relieve(0));
        check.dueRow("visited before what is further", Check.row(2, 2, 0, 0), Check.nodeValues(near, 0));
    }

    @Says("the load of u falls by 1, that of v grows by 1, all others stay")
    static void promise06_relieve_theLongestPath() {
        EdgeHolders x = Scenes.rowWithTwoAtItsStart();
        check.dueRow("loads before", Check.row(2, 1, 1, 1, 1, 1, 1, 1, 1, 1, 1, 0), Check.nodeValues(x, 0));
        int before = x.value(5);
        check.due("eleven edges", 11, x.relieve(0));
        check.dueRow("loads", Scenes.times(1, 12), Check.nodeValues(x, 0));
        check.due("turned", 11, x.value(5) - before);
        for (int edge = 0; edge < 11; edge++) {
            check.due("holder", edge + 1, x.edge(edge, 2));
        }
        check.due("the other edge stays", 0, x.edge(11, 2));
    }

    @Says("Returns the number of edges that are turned.")
    static void promise06_relieve_fortyEdgesOfOneNode() {
        EdgeHolders x = Scenes.fortyOfOne();
        check.dueRow("loads before", Check.row(40, 0), Check.nodeValues(x, 0));
        check.due("one edge", 1, x.relieve(0));
        check.dueRow("loads", Check.row(39, 1), Check.nodeValues(x, 0));
        check.due("the lowest edge", 1, x.edge(0, 2));
    }

    // ---- promise 7

    @Says("Returns the number of nodes that are relieved")
    static void promise07_balance_withoutEdges() {
        EdgeHolders x = new EdgeHolders();
        check.due("nobody", 0, x.balance());
        check.dueRow("values", Check.row(6, 0, 0, 0, 0, 0, 0, 0), values(x));
        check.due("it saves a state", 0, x.undo());
    }

    @Says("as long as some node with the greatest load of all can be relieved")
    static void promise07_balance_loadsThatDifferByOneStay() {
        EdgeHolders x = Scenes.held(3, "ab", "ab", "ba", "ca");
        check.due("2, 1 and 1", 0, x.balance());
        check.dueRow("loads", Check.row(2, 1, 1), Check.nodeValues(x, 0));
        EdgeHolders y = Scenes.held(2, "ab", "ab", "ab", "ba");
        check.due("3 and 1", 1, y.balance());
        check.dueRow("loads then", Check.row(2, 2), Check.nodeValues(y, 0));
    }

    @Says("a node that is relieved twice counts twice")
    static void promise07_balance_fortyEdgesOfOneNode() {
        EdgeHolders x = Scenes.pair(40);
        for (int edge = 0; edge < 40; edge += 2) {
            x.turn(edge);
        }
        check.dueRow("loads before", Check.row(0, 40), Check.nodeValues(x, 0));
        check.due("twenty times", 20, x.balance());
        check.dueRow("loads", Check.row(20, 20), Check.nodeValues(x, 0));
        check.due("nobody is left", 0, x.balance());
    }

    @Says("some node with the greatest load of all")
    static void promise07_balance_aLesserLoadIsNotRelieved() {
        EdgeHolders x = Scenes.held(5, "ab", "ab", "ab", "ba", "ba", "de", "de");
        check.dueRow("loads before", Check.row(3, 2, 0, 2, 0), Check.nodeValues(x, 0));
        check.due("the greatest cannot, a lesser one could", 0, x.balance());
        check.dueRow("loads", Check.row(3, 2, 0, 2, 0), Check.nodeValues(x, 0));
    }

    @Says("the one with the lowest number of those that can is relieved")
    static void promise07_balance_theLowestThatCan() {
        EdgeHolders both = Scenes.held(3, "ac", "ac", "bc", "bc");
        check.due("one of two", 1, both.balance());
        check.dueRow("the lowest", Check.row(1, 2, 1), Check.nodeValues(both, 0));
        EdgeHolders other = Scenes.held(6, "ab", "ab", "ba", "ba", "fe", "fe");
        check.due("the last node alone can", 1, other.balance());
        check.dueRow("loads", Check.row(2, 2, 0, 0, 1, 1), Check.nodeValues(other, 0));
    }

    @Says("as long as some node with the greatest load of all can be relieved")
    static void promise07_balance_theGreatestLoadFallsStepByStep() {
        EdgeHolders x = Scenes.held(4, "ab", "ab", "ab", "ab", "bc", "bc", "bc", "cd", "cd");
        check.dueRow("loads before", Check.row(4, 3, 2, 0), Check.nodeValues(x, 0));
        check.due("a along two edges, a along three, b along two", 3, x.balance());
        check.dueRow("loads", Check.row(2, 2, 3, 2), Check.nodeValues(x, 0));
    }

    // ---- promise 8

    @Says("`capacity`: 0 to 40")
    static void promise08_setCapacity_from0To40() {
        EdgeHolders x = new EdgeHolders();
        check.due("3 at first", 3, x.setCapacity(0, 0));
        check.due("0 before", 0, x.setCapacity(0, 40));
        check.due("40 before", 40, x.setCapacity(0, 40));
        check.dueRow("the others stay", Check.row(40, 3, 3, 3, 3, 3), Check.nodeValues(x, 2));
        for (int capacity = 0; capacity <= 40; capacity++) {
            x.setCapacity(5, capacity);
            check.due("capacity", capacity, x.node(5, 2));
        }
    }

    @Says("Throws `IllegalArgumentException` if capacity is out of range")
    static void promise08_setCapacity_below0AndAbove40IsRefused() {
        check.refused("-1", Check.ARGUMENT, Scenes::busy, x -> x.setCapacity(0, -1));
        check.refused("41", Check.ARGUMENT, Scenes::busy, x -> x.setCapacity(0, 41));
        check.refused("41, fresh", Check.ARGUMENT, Scenes::fresh, x -> x.setCapacity(5, 41));
        for (int capacity : Scenes.FAR) {
            EdgeHolders x = Scenes.busy();
            if (capacity < 0 || capacity > 40) {
                check.dueThrow("" + capacity, x, Check.ARGUMENT, () -> x.setCapacity(1, capacity));
            }
        }
    }

    @Says("Throws `IndexOutOfBoundsException` if there is no such node")
    static void promise08_setCapacity_nodesFromFirstToLast() {
        EdgeHolders x = new EdgeHolders();
        x.begin(12);
        check.due("the first node", 3, x.setCapacity(0, 1));
        check.due("the last node", 3, x.setCapacity(11, 2));
        check.dueRow("capacities", Check.row(1, 3, 3, 3, 3, 3, 3, 3, 3, 3, 3, 2), Check.nodeValues(x, 2));
        check.refused("a node too high", Check.INDEX, Scenes::busy, y -> y.setCapacity(6, 1));
        check.refused("a node below", Check.INDEX, Scenes::busy, y -> y.setCapacity(-1, 1));
        check.refused("a thirteenth node", Check.INDEX, Scenes::full, y -> y.setCapacity(12, 1));
        for (int node : Scenes.FAR) {
            EdgeHolders y = Scenes.busy();
            check.dueThrow("node " + node, y, Check.INDEX, () -> y.setCapacity(node, 1));
        }
    }

    @Says("If several exceptions apply, the one that is listed first is thrown.")
    static void promise08_setCapacity_ofSeveralExceptionsTheFirst() {
        check.refused("no node, above the range", Check.INDEX, Scenes::busy, x -> x.setCapacity(6, 41));
        check.refused("no node, below the range", Check.INDEX, Scenes::busy, x -> x.setCapacity(-1, -1));
    }

    private static int[] values(EdgeHolders x) {
        int[] row = new int[8];
        for (int what = 0; what < row.length; what++) {
            row[what] = x.value(what);
        }
        return row;
    }
}
