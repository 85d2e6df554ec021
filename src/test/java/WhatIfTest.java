/** Promises 19 to 24: leastWith, leastWithout, critical, turnsToBalance, leastCapacity, density. */
public final class WhatIfTest {
    private static final Check check = new Check();

    public static void main(String[] args) {
        Cases.run(WhatIfTest.class, check, 19, 24);
        check.end();
    }

    @Says({
        "Tells the least greatest load if an edge was there, too.",
        "Returns the load.",
        "Throws `IndexOutOfBoundsException` if there is no such node",
        "Throws `IllegalArgumentException` if both are the same"})
    static void promise19_leastWith_someEdge() {
        EdgeHolders x = new EdgeHolders();
        check.due("the first edge", 1, x.leastWith(0, 5));
        x.add(0, 1);
        check.due("a second edge there", 1, x.leastWith(1, 0));
        x.add(0, 1);
        check.due("a third edge there", 2, x.leastWith(0, 1));
        check.due("an edge elsewhere", 1, x.leastWith(2, 3));
        check.due("a third edge the other way round", 2, x.leastWith(1, 0));
        check.due("an edge from there", 1, x.leastWith(1, 2));
        check.due("an edge to there", 1, x.leastWith(2, 1));
        x.add(1, 2);
        x.add(2, 3);
        x.add(3, 3 - 1);
        check.due("both parts are full", 2, x.leastWith(0, 3));
        for (int node : new int[] {6, -1, Integer.MAX_VALUE}) {
            check.dueThrow("leastWith(" + node + ", 0)", x, Check.INDEX, () -> x.leastWith(node, 0));
            check.dueThrow("leastWith(0, " + node + ")", x, Check.INDEX, () -> x.leastWith(0, node));
            check.dueThrow("no node comes first", x, Check.INDEX, () -> x.leastWith(node, node));
        }
        check.dueThrow("leastWith(2, 2)", x, Check.ARGUMENT, () -> x.leastWith(2, 2));
    }

    @Says("Tells the least greatest load if an edge was there, too.")
    static void promise19_leastWith_atFortyEdges() {
        EdgeHolders x = Check.withEdges(2);
        for (int edge = 0; edge < 40; edge++) {
            x.add(0, 1);
        }
        check.due("with forty edges", 20, x.least());
        check.due("a 41st, if it was there", 21, x.leastWith(0, 1));
        check.due("one less", 20, x.leastWithout(39));
    }

    @Says({
        "Tells the least greatest load if an edge was not there.",
        "Returns the load.",
        "Throws `NoSuchElementException` if there is no such edge"})
    static void promise20_leastWithout_eachEdge() {
        EdgeHolders x = Check.withEdges(6, "ab", "ab", "ab", "cd");
        check.due("least", 2, x.least());
        check.due("without one of three", 1, x.leastWithout(0));
        check.due("without another one of three", 1, x.leastWithout(2));
        check.due("without one elsewhere", 2, x.leastWithout(3));
        x.remove(0);
        x.remove(1);
        x.remove(2);
        check.due("without the only one", 0, x.leastWithout(3));
        for (int edge : new int[] {0, 4, -1, Integer.MIN_VALUE}) {
            check.dueThrow("leastWithout(" + edge + ")", x, Check.ELEMENT, () -> x.leastWithout(edge));
        }
    }

    @Says({
        "Finds the edge without which the least greatest load would be less than it is.",
        "Returns the edge, of several the lowest one; NONE if there is none."})
    static void promise21_critical_ofSomeEdges() {
        EdgeHolders x = new EdgeHolders();
        check.due("without edges", EdgeHolders.NONE, x.critical());
        x.add(4, 5);
        check.due("the only edge", 0, x.critical());
        x.add(2, 3);
        check.due("two of the same", EdgeHolders.NONE, x.critical());
        x.add(0, 1);
        x.add(0, 1);
        x.add(0, 1);
        check.due("the lowest of three", 2, x.critical());
        x.remove(2);
        x.add(1, 0);
        check.due("the lowest of three then", 3, x.critical());
        x.add(1, 0);
        check.due("four are one too many and one more", EdgeHolders.NONE, x.critical());
        // both abc and abd have four edges: only what lies in both, between a and b, is critical
        EdgeHolders y = Check.withEdges(4, "bc", "ca", "ad", "ab", "db", "ab");
        check.due("least", 2, y.least());
        check.due("six on four nodes are two too many", EdgeHolders.NONE, y.critical());
        EdgeHolders z = Check.withEdges(4, "bc", "cd", "ad", "ab", "db");
        check.due("five on four nodes: the lowest of all", 0, z.critical());
        EdgeHolders w = Check.withEdges(5, "cd", "ae", "ab", "ab", "ab");
        check.due("in the part alone", 2, w.critical());
    }

    @Says({
        "Tells how many edges balancing would turn (an edge that is turned twice counts twice).",
        "Returns the number of turnings."})
    static void promise22_turnsToBalance_somePaths() {
        EdgeHolders x = Check.withEdges(4, "ab", "bc", "ab", "bd");
        check.dueRow("loads", Check.row(2, 1, 0, 1), Check.loads(x));
        check.due("a path of two edges", 2, x.turnsToBalance());
        checkTurns(x);
        x.begin(4);
        check.due("without edges", 0, x.turnsToBalance());
        x.add(0, 1);
        check.due("nothing to turn", 0, x.turnsToBalance());
        EdgeHolders y = Check.withEdges(4, "ab", "ac", "ad", "bc");
        y.turn(1);
        y.turn(2);
        checkTurns(y);
        EdgeHolders z = Check.withEdges(3, "ab", "ab", "ab", "ab", "bc");
        z.turn(1);
        z.turn(3);
        check.dueRow("loads before", Check.row(4, 0, 1), Check.loads(z));
        check.due("two paths of one edge", 2, z.turnsToBalance());
        checkTurns(z);
    }

    private static void checkTurns(EdgeHolders x) {
        String before = Check.picture(x);
        int told = x.turnsToBalance();
        check.that("turnsToBalance changes nothing", before.equals(Check.picture(x)));
        int turned = x.value(5);
        x.balance();
        check.due("turnsToBalance", x.value(5) - turned, told);
        check.due("afterwards", 0, x.turnsToBalance());
    }

    @Says({
        "Finds the least capacity, the same for all nodes, with which no part would be too dense.",
        "Returns the capacity."})
    static void promise23_leastCapacity_withEachCapacity() {
        EdgeHolders x = new EdgeHolders();
        check.due("without edges", 0, x.leastCapacity());
        for (int edge = 0; edge < 7; edge++) {
            x.add(edge % 3, (edge + 1) % 3);
        }
        check.due("seven edges on three nodes", 3, x.leastCapacity());
        for (int capacity = 0; capacity < 5; capacity++) {
            for (int node = 0; node < 6; node++) {
                x.setCapacity(node, capacity);
            }
            check.that("too dense below " + capacity, (x.tooDense() == EdgeHolders.NONE) == (capacity >= 3));
            check.due("the capacities do not matter", 3, x.leastCapacity());
        }
    }

    @Says({
        "Returns the greatest density.",
        "Returns the inner edges of the densest part, converted to double, divided by its nodes, converted to double."})
    static void promise24_density_ofSomeParts() {
        EdgeHolders x = new EdgeHolders();
        check.dueReal("without edges", 0.0, x.density());
        x.add(0, 1);
        check.dueReal("one edge", 0.5, x.density());
        x.add(1, 2);
        check.dueReal("two edges", 2.0 / 3.0, x.density());
        x.add(2, 0);
        check.dueReal("a ring", 1.0, x.density());
        x.add(2, 0);
        check.dueReal("and one more", 4.0 / 3.0, x.density());
        x.remove(0);
        x.remove(1);
        check.dueReal("less", 1.0, x.density());
    }

    @Says("Nothing is promised beyond the answers and state changes described above")
    static void promise24_density_noQuestionChangesAnything() {
        EdgeHolders x = Check.withEdges(6, "ab", "ab", "ab", "cd");
        x.turn(1);
        String before = Check.picture(x);
        x.leastWith(0, 1);
        x.leastWithout(0);
        x.critical();
        x.turnsToBalance();
        x.leastCapacity();
        x.density();
        check.that("what-if questions change nothing", before.equals(Check.picture(x)));
        check.due("least stays after them", 2, x.least());
        check.due("densest stays after them", 3, x.densest());
    }
}
