/** Promises 28 and 29: undo, digest. */
public final class StateTest {
    private static final Check check = new Check();

    public static void main(String[] args) {
        Cases.run(StateTest.class, check, 28, 29);
        check.end();
    }

    private static EdgeHolders some() {
        EdgeHolders x = Check.withEdges(6, "ab", "ab", "ab", "bc");
        x.turn(1);
        return x;
    }

    private static void dueUndone(String what, Check.Call call, EdgeHolders x) {
        String before = picture(x);
        call.make();
        check.due(what + " saves a state", 3, x.undo());
        check.that(what + " is undone", before.equals(picture(x)));
    }

    /** Without the digest, which has the number of saved states. */
    private static String picture(EdgeHolders x) {
        String seen = Check.picture(x);
        return seen.substring(0, seen.lastIndexOf(' ')) + " " + x.densest() + " " + x.least() + " " + x.tooDense();
    }

    @Says("Each successful call of a method whose description says \"undoable\" saves the state from before the call, even if the call changes nothing")
    static void promise28_undo_eachMethod() {
        EdgeHolders a = some();
        dueUndone("begin", () -> a.begin(3), a);
        EdgeHolders b = some();
        dueUndone("begin as it was", () -> b.begin(6), b);
        EdgeHolders c = some();
        dueUndone("add", () -> c.add(4, 5), c);
        EdgeHolders d = some();
        dueUndone("remove", () -> d.remove(1), d);
        EdgeHolders e = some();
        dueUndone("turn", () -> e.turn(0), e);
        EdgeHolders f = some();
        dueUndone("relieve", () -> f.relieve(0), f);
        EdgeHolders g = some();
        dueUndone("balance", g::balance, g);
        EdgeHolders h = some();
        dueUndone("setCapacity", () -> h.setCapacity(0, 0), h);
        EdgeHolders i = some();
        dueUndone("setCapacity that changes nothing", () -> i.setCapacity(0, 3), i);
        EdgeHolders j = some();
        dueUndone("carryOut of nothing", j::carryOut, j);
        EdgeHolders k = some();
        Check.type(k, "t0;-1;+cd;cc=1;b;");
        dueUndone("carryOut", k::carryOut, k);
    }

    @Says("A call that throws an exception changes nothing.")
    static void promise28_undo_failedCallsSaveNothing() {
        EdgeHolders x = new EdgeHolders();
        x.add(0, 1);
        Check.Call[] calls = {
            () -> x.begin(1), () -> x.add(0, 0), () -> x.remove(5), () -> x.turn(5), () -> x.relieve(0),
            () -> x.setCapacity(0, 41), () -> x.node(9, 0), () -> x.inner(0), () -> x.append(128)};
        for (Check.Call call : calls) {
            check.that("the call throws", Check.thrownBy(call) != null);
        }
        check.due("a wrong text", -10, Check.carryOut(x, ";"));
        x.clearText();
        check.due("only the one state is saved", 0, x.undo());
        check.due("undone", 0, x.value(1));
        check.dueThrow("undo", x, Check.STATE, x::undo);
    }

    @Says("at most 4 states are saved, and the oldest is dropped first")
    static void promise28_undo_atMostFour() {
        EdgeHolders x = new EdgeHolders();
        for (int node = 0; node < 6; node++) {
            x.setCapacity(node, 10 + node);
        }
        for (int left = 3; left >= 0; left--) {
            check.due("undo", left, x.undo());
        }
        check.dueRow("the oldest are dropped", Check.row(10, 11, 3, 3, 3, 3), Check.nodeValues(x, 2));
        check.dueThrow("a fifth undo", x, Check.STATE, x::undo);
        x.setCapacity(0, 20);
        x.undo();
        check.due("one more and back", 10, x.node(0, 2));
        for (int round = 0; round < 3; round++) {
            x.turn(x.add(0, 1));
            x.undo();
            x.turn(x.edgeAt(round));
        }
        check.due("undo between calls", 3, x.undo());
        check.dueRow("turnings", Check.row(1, 1, 0), Check.edgeValues(x, 3));
        check.due("undo once more", 2, x.undo());
        check.due("edges", 2, x.value(1));
        check.due("undo a third time", 1, x.undo());
        check.dueRow("turnings then", Check.row(1, 0), Check.edgeValues(x, 3));
        check.due("undo a fourth time", 0, x.undo());
        check.due("edge before", 1, x.value(1));
    }

    @Says("The saved state contains everything except the text.")
    static void promise28_undo_all() {
        EdgeHolders x = new EdgeHolders();
        x.append('b');
        x.add(0, 1);
        x.begin(12);
        check.due("undo of begin", 1, x.undo());
        check.due("nodes", 6, x.value(0));
        check.due("edges", 1, x.value(1));
        check.dueThrow("nodes are six again", x, Check.INDEX, () -> x.node(6, 0));
        x.undo();
        check.due("the next number", 0, x.value(6));
        check.due("the text stays", 1, x.clearText());
    }

    @Says("Returns a hash of the state. Start with h = 3779 and, for each of the following values v, set h = 31 * h + v")
    static void promise29_digest_byHand() {
        EdgeHolders x = new EdgeHolders();
        long[] values = {0, 2, 0, 0, 0, 0, 0, 0, 0, 0, 0, 3, 0, 1, 0, 0, 3, 0, 2, 3, 0, -1, 1};
        x.begin(2);
        check.due("digest without edges", hash(values), x.digest());
        x.append('x');
        x.add(1, 0);
        x.turn(0);
        x.setCapacity(0, 0);
        long[] then = {1, 2, 1, 1, 0, 1, 1, 1, 1, 1, 1, 0, 1, 3, 0, 1, 3, 1, 2, 0, 1, 0, 0, 1, 3, 1, -1, 4};
        check.due("digest with an edge", hash(then), x.digest());
        check.due("digest of a new object", hash(ofNewObject()), new EdgeHolders().digest());
    }

    private static long[] ofNewObject() {
        long[] values = new long[1 + 8 + 6 * 5 + 4];
        values[1] = 6;
        for (int node = 0; node < 6; node++) {
            values[9 + node * 5 + 2] = 3;
            values[9 + node * 5 + 4] = 1 << node;
        }
        values[39] = 63;
        values[41] = -1;
        return values;
    }

    private static long hash(long[] values) {
        long h = 3779;
        for (long v : values) {
            h = 31 * h + v;
        }
        return h;
    }

    @Says("the length of the text; value() for 0 to 7; for each node the values of node() for what = 0 to 4; for each edge, in ascending order, its number and the values of edge() for what = 0 to 3; densest(); least(); tooDense(); the number of saved states")
    static void promise29_digest_seesEverything() {
        EdgeHolders x = some();
        long before = x.digest();
        check.due("the same twice", before, x.digest());
        check.due("another object with the same calls", before, some().digest());
        x.append('b');
        check.that("it has the length of the text", before != x.digest());
        x.clearText();
        check.due("as before", before, x.digest());
        x.undo();
        check.that("it has the turnings", before != x.digest());
        long[] values = new long[1 + 8 + 6 * 5 + 4 * 5 + 4];
        int at = 1;
        for (int what = 0; what < 8; what++) {
            values[at++] = x.value(what);
        }
        for (int node = 0; node < 6; node++) {
            for (int what = 0; what < 5; what++) {
                values[at++] = x.node(node, what);
            }
        }
        for (int index = 0; index < 4; index++) {
            values[at++] = x.edgeAt(index);
            for (int what = 0; what < 4; what++) {
                values[at++] = x.edge(x.edgeAt(index), what);
            }
        }
        values[at++] = x.densest();
        values[at++] = x.least();
        values[at++] = x.tooDense();
        values[at] = 3;
        check.due("all of it", hash(values), x.digest());
    }
}
