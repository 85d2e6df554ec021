/** The boundary cases of the promises 19 to 24: leastWith, leastWithout, critical, turnsToBalance, leastCapacity, density. */
public final class WhatIfBoundariesTest {
    private static final Check check = new Check();

    public static void main(String[] args) {
        Cases.run(WhatIfBoundariesTest.class, check, 19, 24);
        check.end();
    }

    // ---- promise 19

    @Says("Throws `IndexOutOfBoundsException` if there is no such node")
    static void promise19_leastWith_nodesFromFirstToLast() {
        EdgeHolders x = Scenes.busy();
        check.due("first and last", 1, x.leastWith(0, 5));
        check.due("last and first", 1, x.leastWith(5, 0));
        check.due("the last two of twelve", 1, Scenes.held(12, "kl", "kl").leastWith(9, 11));
        check.due("a third edge of the last two", 2, Scenes.held(12, "kl", "kl").leastWith(11, 10));
        check.refused("first too high", Check.INDEX, Scenes::busy, y -> y.leastWith(6, 0));
        check.refused("second too high", Check.INDEX, Scenes::busy, y -> y.leastWith(0, 6));
        check.refused("first below", Check.INDEX, Scenes::busy, y -> y.leastWith(-1, 0));
        check.refused("second below", Check.INDEX, Scenes::busy, y -> y.leastWith(0, -1));
        check.refused("a thirteenth node", Check.INDEX, Scenes::full, y -> y.leastWith(12, 0));
        for (int node : Scenes.FAR) {
            check.dueThrow("first is " + node, x, Check.INDEX, () -> x.leastWith(node, 1));
            check.dueThrow("second is " + node, x, Check.INDEX, () -> x.leastWith(1, node));
        }
    }

    @Says("Throws `IllegalArgumentException` if both are the same")
    static void promise19_leastWith_bothTheSameIsRefused() {
        check.refused("0 and 0", Check.ARGUMENT, Scenes::busy, x -> x.leastWith(0, 0));
        check.refused("5 and 5", Check.ARGUMENT, Scenes::fresh, x -> x.leastWith(5, 5));
        check.refused("at 40 edges", Check.ARGUMENT, Scenes::full, x -> x.leastWith(11, 11));
    }

    @Says("If several exceptions apply, the one that is listed first is thrown.")
    static void promise19_leastWith_ofSeveralExceptionsTheFirst() {
        check.refused("no node, both the same", Check.INDEX, Scenes::busy, x -> x.leastWith(6, 6));
        check.refused("below, both the same", Check.INDEX, Scenes::busy, x -> x.leastWith(-1, -1));
    }

    @Says("Tells the least greatest load if an edge was there, too.")
    static void promise19_leastWith_withoutAndWithFortyEdges() {
        check.due("the first edge", 1, new EdgeHolders().leastWith(0, 1));
        int[] due = {1, 1, 2, 2, 3};
        for (int edges = 0; edges < due.length; edges++) {
            check.due("with " + edges, due[edges], Scenes.pair(edges).leastWith(0, 1));
        }
        check.due("with 39", 20, Scenes.pair(39).leastWith(1, 0));
        check.due("with 40 there is no exception", 21, Scenes.pair(40).leastWith(1, 0));
        check.due("with 38", 20, Scenes.pair(38).leastWith(1, 0));
    }

    @Says("Tells the least greatest load if an edge was there, too.")
    static void promise19_leastWith_doesNotAddIt() {
        dueUnchanged("leastWith", x -> x.leastWith(0, 1));
        EdgeHolders x = Scenes.pair(40);
        x.leastWith(0, 1);
        check.due("the least stays", 20, x.least());
        check.due("the edges stay", 40, x.value(1));
        check.due("no number is used", 40, x.value(6));
    }

    /** The question changes nothing, and saves no state. */
    private static void dueUnchanged(String what, Check.Deed question) {
        Look.Maker[] makers = {Scenes::fresh, Scenes::busy, Scenes::full};
        for (Look.Maker maker : makers) {
            Look.dueAlike(check, what + " changes nothing", maker, () -> {
                EdgeHolders x = maker.make();
                question.to(x);
                return x;
            });
        }
    }

    // ---- promise 20

    @Says("Throws `NoSuchElementException` if there is no such edge")
    static void promise20_leastWithout_numbersFromLowestToHighest() {
        EdgeHolders x = Scenes.busy();
        check.due("the lowest", 1, x.leastWithout(0));
        check.due("the highest", 1, x.leastWithout(4));
        check.refused("a number too high", Check.ELEMENT, Scenes::busy, y -> y.leastWithout(5));
        check.refused("a number that was removed", Check.ELEMENT, Scenes::busy, y -> y.leastWithout(3));
        check.refused("a number below", Check.ELEMENT, Scenes::busy, y -> y.leastWithout(-1));
        check.refused("without edges", Check.ELEMENT, Scenes::fresh, y -> y.leastWithout(0));
        check.refused("at 40 edges", Check.ELEMENT, Scenes::full, y -> y.leastWithout(40));
        for (int edge : Scenes.FAR) {
            check.dueThrow("edge " + edge, x, Check.ELEMENT, () -> x.leastWithout(edge));
        }
    }

    @Says("Tells the least greatest load if an edge was not there.")
    static void promise20_leastWithout_fromOneToFortyEdges() {
        int[] edges = {1, 2, 3, 4, 5, 39, 40};
        int[] due = {0, 1, 1, 2, 2, 19, 20};
        for (int at = 0; at < edges.length; at++) {
            check.due("the first of " + edges[at], due[at], Scenes.pair(edges[at]).leastWithout(0));
            check.due("the last of " + edges[at], due[at], Scenes.pair(edges[at]).leastWithout(edges[at] - 1));
        }
        EdgeHolders x = Scenes.held(6, "ab", "ab", "ab", "ef");
        check.due("an edge of the densest part", 1, x.leastWithout(2));
        check.due("an edge elsewhere", 2, x.leastWithout(3));
    }

    @Says("Tells the least greatest load if an edge was not there.")
    static void promise20_leastWithout_doesNotRemoveIt() {
        dueUnchanged("leastWithout", x -> {
            if (x.value(1) > 0) {
                x.leastWithout(x.edgeAt(0));
            }
        });
    }

    // ---- promise 21

    @Says("NONE if there is none")
    static void promise21_critical_withoutEdges() {
        check.due("fresh", EdgeHolders.NONE, new EdgeHolders().critical());
        EdgeHolders x = Scenes.pair(1);
        check.due("the only edge", 0, x.critical());
        x.remove(0);
        check.due("behind a remove", EdgeHolders.NONE, x.critical());
        x.begin(12);
        check.due("twelve nodes", EdgeHolders.NONE, x.critical());
    }

    @Says("Finds the edge without which the least greatest load would be less than it is.")
    static void promise21_critical_justOneEdgeTooMany() {
        int[] edges = {1, 2, 3, 4, 38, 39, 40};
        int[] due = {0, -1, 0, -1, -1, 0, -1};
        for (int at = 0; at < edges.length; at++) {
            check.due(edges[at] + " edges of two nodes", due[at], Scenes.pair(edges[at]).critical());
        }
        check.due("3 of 3", EdgeHolders.NONE, Scenes.held(3, "ab", "bc", "ca").critical());
        check.due("4 of 3", 0, Scenes.held(3, "ab", "bc", "ca", "ab").critical());
        check.due("5 of 3", EdgeHolders.NONE, Scenes.held(3, "ab", "bc", "ca", "ab", "bc").critical());
    }

    @Says("Returns the edge, of several the lowest one")
    static void promise21_critical_theLowestOfSeveral() {
        EdgeHolders x = Scenes.held(6, "ef", "ab", "cd", "ba", "ab");
        check.due("the lowest in the part", 1, x.critical());
        x.remove(1);
        x.add(1, 0);
        check.due("its number, not its place", 3, x.critical());
        check.due("without it", 1, x.leastWithout(3));
        EdgeHolders last = Scenes.held(6, "ab", "cd", "ef", "ef", "ef");
        check.due("the part of the last nodes", 2, last.critical());
    }

    @Says("NONE if there is none")
    static void promise21_critical_twoPartsAtOnce() {
        check.due("two pairs", EdgeHolders.NONE, Scenes.held(4, "ab", "ab", "ab", "cd", "cd", "cd").critical());
        check.due("two rings with a common edge", 0, Scenes.held(4, "ab", "bc", "ca", "bd", "da").critical());
        check.due("an edge that lies in both, not the lower one of the greater part", 1,
            Scenes.held(6, "cb", "ab", "ba", "ab").critical());
    }

    @Says("Finds the edge without which the least greatest load would be less than it is.")
    static void promise21_critical_asLeastWithoutSays() {
        String[][] scenes = {
            {"ab", "bc", "cd", "de", "ea", "ac"}, {"ab", "ab", "bc", "cd", "cd", "da"},
            {"ab", "bc", "ca", "ab", "de", "ef", "fd", "de"}, {"fa", "ab", "ab", "fb", "bc"}, {"ae", "af", "ef", "ef"}};
        for (String[] pairs : scenes) {
            EdgeHolders x = Scenes.held(6, pairs);
            int due = EdgeHolders.NONE;
            for (int edge = pairs.length - 1; edge >= 0; edge--) {
                due = x.leastWithout(edge) < x.least() ? edge : due;
            }
            check.due(String.join(" ", pairs), due, x.critical());
        }
        dueUnchanged("critical", EdgeHolders::critical);
    }

    // ---- promise 22

    @Says("Returns the number of turnings.")
    static void promise22_turnsToBalance_nothingToTurn() {
        check.due("without edges", 0, new EdgeHolders().turnsToBalance());
        check.due("loads that differ by one", 0, Scenes.held(3, "ab", "ab", "ba", "ca").turnsToBalance());
        check.due("forty edges, balanced", 0, Scenes.pair(40).turnsToBalance());
        check.due("the greatest cannot be relieved", 0,
            Scenes.held(5, "ab", "ab", "ab", "ba", "ba", "de", "de").turnsToBalance());
    }

    @Says("Tells how many edges balancing would turn (an edge that is turned twice counts twice).")
    static void promise22_turnsToBalance_allEdgesOfThePaths() {
        EdgeHolders row = Scenes.rowWithTwoAtItsStart();
        check.due("one path of eleven edges", 11, row.turnsToBalance());
        check.due("it is one node that is relieved", 1, row.balance());
        EdgeHolders full = Scenes.fortyOfOne();
        int before = full.value(5);
        check.due("twenty paths of one edge", 20, full.turnsToBalance());
        check.due("the question turned none", before, full.value(5));
        full.balance();
        check.due("as balancing does", before + 20, full.value(5));
    }

    @Says("(an edge that is turned twice counts twice)")
    static void promise22_turnsToBalance_anEdgeTwice() {
        EdgeHolders x = Scenes.held(3, "ba", "bc", "ba", "ab");
        check.dueRow("loads", Check.row(1, 3, 0), Check.nodeValues(x, 0));
        int[] before = Check.edgeValues(x, 3);
        check.due("b along the edge 0, then a along the edges 0 and 1", 3, x.turnsToBalance());
        check.due("balancing relieves two", 2, x.balance());
        int[] then = Check.edgeValues(x, 3);
        check.dueRow("turned by balancing", Check.row(2, 1, 0, 0),
            Check.row(then[0] - before[0], then[1] - before[1], then[2] - before[2], then[3] - before[3]));
    }

    @Says("Tells how many edges balancing would turn")
    static void promise22_turnsToBalance_changesNothing() {
        dueUnchanged("turnsToBalance", EdgeHolders::turnsToBalance);
        Look.dueAlike(check, "turnsToBalance of a heavy node", () -> Scenes.held(3, "ab", "ab", "ab", "bc"), () -> {
            EdgeHolders x = Scenes.held(3, "ab", "ab", "ab", "bc");
            x.turnsToBalance();
            return x;
        });
    }

    // ---- promise 23

    @Says("Finds the least capacity, the same for all nodes, with which no part would be too dense.")
    static void promise23_leastCapacity_isJustEnough() {
        check.due("without edges", 0, new EdgeHolders().leastCapacity());
        int[] edges = {1, 2, 3, 4, 38, 39, 40};
        int[] due = {1, 1, 2, 2, 19, 20, 20};
        for (int at = 0; at < edges.length; at++) {
            EdgeHolders x = Scenes.pair(edges[at]);
            int capacity = x.leastCapacity();
            check.due(edges[at] + " edges of two nodes", due[at], capacity);
            x.setCapacity(0, capacity);
            x.setCapacity(1, capacity);
            check.due("with it no part is too dense", EdgeHolders.NONE, x.tooDense());
            x.setCapacity(0, capacity - 1);
            x.setCapacity(1, capacity - 1);
            check.due("with one less a part is", 3, x.tooDense());
            check.due("the capacities do not matter", due[at], x.leastCapacity());
        }
        dueUnchanged("leastCapacity", EdgeHolders::leastCapacity);
    }

    // ---- promise 24

    @Says("Returns the inner edges of the densest part, converted to double, divided by its nodes, converted to double.")
    static void promise24_density_withoutAndWithFortyEdges() {
        check.dueReal("without edges", 0.0, new EdgeHolders().density());
        EdgeHolders twelve = new EdgeHolders();
        twelve.begin(12);
        check.dueReal("twelve nodes without edges", 0.0, twelve.density());
        check.dueReal("one edge", 0.5, Scenes.pair(1).density());
        check.dueReal("forty edges", 20.0, Scenes.pair(40).density());
        check.dueReal("39 edges", 19.5, Scenes.pair(39).density());
    }

    @Says("Returns the inner edges of the densest part, converted to double, divided by its nodes, converted to double.")
    static void promise24_density_isNotRounded() {
        check.dueReal("2 of 3", 2.0 / 3.0, Scenes.held(3, "ab", "bc").density());
        check.dueReal("4 of 3", 4.0 / 3.0, Scenes.held(6, "ab", "bc", "ca", "ab").density());
        check.dueReal("11 of 12", 11.0 / 12.0, Scenes.rowOfTwelve().density());
        EdgeHolders x = Scenes.rowOfTwelve();
        x.remove(10);
        check.dueReal("10 of 11", 10.0 / 11.0, x.density());
        x.remove(5);
        check.dueReal("5 of 6", 5.0 / 6.0, x.density());
        dueUnchanged("density", EdgeHolders::density);
    }
}
