/** Promises 25 to 27: append, clearText, carryOut. */
public final class TextTest {
    private static final Check check = new Check();

    public static void main(String[] args) {
        Cases.run(TextTest.class, check, 25, 27);
        check.end();
    }

    @Says({
        "Appends a byte to the text.",
        "Returns the new length of the text.",
        "Throws `IllegalArgumentException` if value is out of range",
        "Throws `IllegalStateException` if the text has 100 bytes"})
    static void promise25_append_bytes() {
        EdgeHolders x = new EdgeHolders();
        check.due("the first byte", 1, x.append(0));
        check.due("the second byte", 2, x.append(127));
        for (int value : new int[] {-1, 128, Integer.MIN_VALUE, Integer.MAX_VALUE}) {
            check.dueThrow("append(" + value + ")", x, Check.ARGUMENT, () -> x.append(value));
        }
        for (int length = 3; length <= 100; length++) {
            check.due("append", length, x.append('b'));
        }
        check.dueThrow("a byte too many", x, Check.STATE, () -> x.append('b'));
        check.dueThrow("the range comes first", x, Check.ARGUMENT, () -> x.append(128));
        check.due("length", 100, x.clearText());
        check.due("room again", 1, x.append('b'));
        check.due("append saves no state", 0, x.carryOut() + 10 + 1);
        check.dueThrow("no state is saved", x, Check.STATE, x::undo);
    }

    @Says({
        "Empties the text.",
        "Returns the length that it had."})
    static void promise26_clearText_aText() {
        EdgeHolders x = new EdgeHolders();
        check.due("an empty text", 0, x.clearText());
        Check.type(x, "+ab;");
        check.due("its length", 4, x.clearText());
        check.due("empty then", 0, x.clearText());
        check.due("nothing is left of it", 0, x.carryOut());
        check.due("no edge", 0, x.value(1));
        x.undo();
        check.dueThrow("clearText saves no state", x, Check.STATE, x::undo);
    }

    private static void dueAt(String text, int position) {
        EdgeHolders x = Check.withEdges(6, "ab");
        String before = Check.picture(Check.withEdges(6, "ab"));
        Check.type(x, text);
        check.due("syntax error of '" + text + "'", -10 - position, x.carryOut());
        check.due("the text stays", text.length(), x.clearText());
        check.that("'" + text + "' changes nothing", before.equals(Check.picture(x)));
    }

    private static void dueWell(String text) {
        EdgeHolders x = Check.withEdges(6, "ab");
        check.that("'" + text + "' has no syntax error", Check.carryOut(x, text) >= 0);
    }

    @Says("\"+\" and two node letters a to l, to add an edge")
    static void promise27_carryOut_syntaxOfPairs() {
        dueAt("+", 1);
        dueAt("+a", 2);
        dueAt("+ab", 3);
        dueAt("+m", 1);
        dueAt("+A", 1);
        dueAt("+`", 1);
        dueAt("+am", 2);
        dueAt("+a;", 2);
        dueAt("+abc", 3);
        dueAt("+ab ;", 3);
        dueAt("+1", 1);
        dueWell("+ab;");
        dueWell("+al;");
        dueWell("+la;");
        dueWell("+cc;");
    }

    @Says("\"-\" and an edge number of one to three digits, to remove it; \"t\" and an edge number of one to three digits, to turn it")
    static void promise27_carryOut_syntaxOfEdges() {
        for (String kind : new String[] {"-", "t"}) {
            dueAt(kind, 1);
            dueAt(kind + ";", 1);
            dueAt(kind + "a;", 1);
            dueAt(kind + "1", 2);
            dueAt(kind + "1a", 2);
            dueAt(kind + "123", 4);
            dueAt(kind + "1234", 4);
            dueAt(kind + "0000;", 4);
            dueAt(kind + "-1;", 1);
            dueAt(kind + "/", 1);
            dueAt(kind + ":", 1);
            dueWell(kind + "0;");
            dueWell(kind + "00;");
            dueWell(kind + "999;");
        }
    }

    @Says("\"r\" and a node letter, to relieve it; \"b\", to balance")
    static void promise27_carryOut_syntaxOfNodes() {
        dueAt("r", 1);
        dueAt("r;", 1);
        dueAt("rm", 1);
        dueAt("ra", 2);
        dueAt("rab", 2);
        dueAt("b", 1);
        dueAt("ba", 1);
        dueAt("b1", 1);
        dueWell("rl;");
        dueWell("b;");
    }

    @Says("\"c\", a node letter, \"=\", and a number of one or two digits, 0 to 40, to set a capacity")
    static void promise27_carryOut_syntaxOfCapacities() {
        dueAt("c", 1);
        dueAt("cm", 1);
        dueAt("c1", 1);
        dueAt("ca", 2);
        dueAt("ca1", 2);
        dueAt("ca=", 3);
        dueAt("ca=;", 3);
        dueAt("ca=a", 3);
        dueAt("ca=4", 4);
        dueAt("ca=40", 5);
        dueAt("ca=4a", 4);
        dueAt("ca=40a", 5);
        dueAt("ca=41", 3);
        dueAt("ca=41;", 3);
        dueAt("ca=99a", 3);
        dueAt("ca=411", 5);
        dueAt("ca=411;", 5);
        dueAt("ca=040", 5);
        dueAt("ca=400", 5);
        dueAt("ca==", 3);
        dueAt("ca=-1", 3);
        dueWell("ca=0;");
        dueWell("ca=00;");
        dueWell("ca=07;");
        dueWell("ca=40;");
        dueWell("cl=40;");
    }

    @Says({
        "It is a sequence of orders, each terminated by a semicolon",
        "There are no spaces; there may be no orders."})
    static void promise27_carryOut_syntaxBehindOrders() {
        dueAt(" ", 0);
        dueAt(";", 0);
        dueAt("B;", 0);
        dueAt("\u0000", 0);
        dueAt("b;;", 2);
        dueAt("b; b;", 2);
        dueAt("b;x", 2);
        dueAt("+ab;t0;ca=50;-9999;", 10);
        dueAt("+ab;t0;ca=5;-9999;", 16);
        dueAt("+gh;b", 5);
        dueAt("b;".repeat(49) + "b", 99);
        dueAt("b;".repeat(49) + "+a", 100);
        dueAt("b;".repeat(48) + "ca=9", 100);
        dueWell("");
        dueWell("b;".repeat(50));
    }

    @Says("Returns the number of orders that are carried out; -10 minus the syntax error position if there is a syntax error (then nothing changes).")
    static void promise27_carryOut_syntaxErrorChangesNothing() {
        EdgeHolders x = new EdgeHolders();
        check.due("a wrong text", -16, Check.carryOut(x, "+ab;b;x"));
        check.due("no order is carried out", 0, x.value(1));
        check.dueThrow("no state is saved", x, Check.STATE, x::undo);
        x.clearText();
        check.due("an empty text", 0, x.carryOut());
        check.due("saves one state", 0, x.undo());
    }

    @Says("Carries out the orders of the text")
    static void promise27_carryOut_orders() {
        EdgeHolders x = new EdgeHolders();
        check.due("adding", 3, Check.carryOut(x, "+ab;+ab;+fc;"));
        check.dueRow("first ends", Check.row(0, 0, 5), Check.edgeValues(x, 0));
        check.dueRow("second ends", Check.row(1, 1, 2), Check.edgeValues(x, 1));
        check.dueRow("holders", Check.row(0, 1, 5), Check.edgeValues(x, 2));
        check.due("turning", 2, Check.carryOut(x, "t01;t2;"));
        check.dueRow("holders turned", Check.row(0, 0, 2), Check.edgeValues(x, 2));
        check.due("relieving", 1, Check.carryOut(x, "ra;"));
        check.dueRow("holders relieved", Check.row(1, 0, 2), Check.edgeValues(x, 2));
        check.due("balancing", 2, Check.carryOut(x, "t000;b;"));
        check.dueRow("holders balanced", Check.row(1, 0, 2), Check.edgeValues(x, 2));
        check.dueRow("turnings", Check.row(3, 1, 1), Check.edgeValues(x, 3));
        check.due("removing", 1, Check.carryOut(x, "-000;"));
        check.due("the lowest edge then", 1, x.edgeAt(0));
        check.due("capacities", 2, Check.carryOut(x, "cf=40;cb=09;"));
        check.dueRow("capacities set", Check.row(3, 9, 3, 3, 3, 40), Check.nodeValues(x, 2));
        check.due("parts follow", 36, orderAndDensest(x, "-1;"));
        EdgeHolders y = Check.withEdges(12);
        check.due("letters to l", 2, Check.carryOut(y, "+al;+kl;"));
        check.dueRow("their first ends", Check.row(0, 10), Check.edgeValues(y, 0));
        check.dueRow("their second ends", Check.row(11, 11), Check.edgeValues(y, 1));
    }

    private static int orderAndDensest(EdgeHolders x, String text) {
        check.due("densest before", 39, x.densest());
        check.due("carried out", 1, Check.carryOut(x, text));
        return x.densest();
    }

    private static void dueStop(String order) {
        EdgeHolders x = Check.withEdges(6, "ab", "ab");
        check.due("up to " + order, 1, Check.carryOut(x, "cf=7;" + order + "cf=8;"));
        check.due("the order before stays done", 7, x.node(5, 2));
        check.due("the edges stay", 2, x.value(1));
        check.dueRow("the holders stay", Check.row(0, 1), Check.edgeValues(x, 2));
        check.due("the next number stays", 2, x.value(6));
        check.due("one state is saved", 3, x.undo());
        check.due("undone", 3, x.node(5, 2));
    }

    @Says("up to the first one that would throw an exception (that one is not carried out)")
    static void promise27_carryOut_ordersThatThrow() {
        dueStop("+aa;");
        dueStop("+gg;");
        dueStop("+ag;");
        dueStop("+ga;");
        dueStop("+al;");
        dueStop("-2;");
        dueStop("-999;");
        dueStop("t2;");
        dueStop("t100;");
        dueStop("rg;");
        dueStop("ra;");
        dueStop("rc;");
        dueStop("cg=1;");
        EdgeHolders x = new EdgeHolders();
        check.due("removed by the text itself", 2, Check.carryOut(x, "+ab;-0;t0;+cd;"));
        check.due("no edges are left", 0, x.value(1));
        check.due("relieving a second time", 3, Check.carryOut(x, "+ab;t1;t1;ra;b;"));
    }

    @Says("There are at most 40")
    static void promise27_carryOut_orderAtFortyEdges() {
        EdgeHolders x = new EdgeHolders();
        check.due("25 orders", 25, Check.carryOut(x, "+ab;".repeat(25)));
        check.due("15 orders of 25", 15, x.carryOut());
        check.due("40 edges", 40, x.value(1));
        check.due("none of 25", 0, x.carryOut());
        check.due("a wrong pair at 40 edges", 1, Check.carryOut(x, "b;+aa;b;"));
        check.due("removed and added", 2, Check.carryOut(x, "-0;+cd;+cd;"));
        check.due("40 edges again", 40, x.value(1));
        check.due("its number", 40, x.edgeAt(39));
    }

    @Says("The text stays as it is. Undoable (one saved state, also if no order is carried out), if there is no syntax error.")
    static void promise27_carryOut_textStaysAndOneUndo() {
        EdgeHolders x = new EdgeHolders();
        check.due("three orders", 3, Check.carryOut(x, "+ab;+ab;t1;"));
        check.due("again", 3, x.carryOut());
        check.due("edges", 4, x.value(1));
        check.due("the edge 1 was turned twice", 2, x.edge(1, 3));
        check.due("one undo for all orders", 1, x.undo());
        check.due("edges then", 2, x.value(1));
        check.due("undo leaves the text", 3, x.carryOut());
        check.due("its length", 11, x.clearText());
    }
}
