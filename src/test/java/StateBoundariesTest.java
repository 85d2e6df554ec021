import java.math.BigInteger;
import java.util.ArrayList;
import java.util.List;

/** The boundary cases of the promises 28 and 29: undo, digest. */
public final class StateBoundariesTest {
    private static final Check check = new Check();

    private static final String[] UNDOABLE = {
        "begin", "begin as it was", "add", "remove", "turn", "relieve", "balance", "setCapacity", "setCapacity as it was",
        "carryOut", "carryOut of no order", "carryOut that stops"};
    private static final Check.Deed[] UNDOABLE_CALLS = {
        x -> x.begin(2), x -> x.begin(6), x -> x.add(4, 5), x -> x.remove(1), x -> x.turn(0), x -> x.relieve(0),
        EdgeHolders::balance, x -> x.setCapacity(3, 40), x -> x.setCapacity(3, 3),
        x -> Check.carryOut(x, "+ab;t0;-1;cd=0;b;"), x -> Check.carryOut(x, ""), x -> Check.carryOut(x, "t0;-99;t0;")};

    private static final String[] OTHER = {
        "node", "edge", "edgeAt", "value", "path", "step", "inner", "densest", "least", "tooDense", "leastWith",
        "leastWithout", "critical", "turnsToBalance", "leastCapacity", "density", "append", "clearText",
        "carryOut of a wrong text", "digest"};
    private static final Check.Deed[] OTHER_CALLS = {
        x -> x.node(0, 4), x -> x.edge(0, 3), x -> x.edgeAt(0), x -> x.value(4), x -> x.path(0, 1), x -> x.step(0, 1, 0),
        x -> x.inner(3), EdgeHolders::densest, EdgeHolders::least, EdgeHolders::tooDense, x -> x.leastWith(0, 1),
        x -> x.leastWithout(0), EdgeHolders::critical, EdgeHolders::turnsToBalance, EdgeHolders::leastCapacity,
        EdgeHolders::density, x -> x.append('b'), EdgeHolders::clearText, x -> Check.carryOut(x, "+ab;;"),
        EdgeHolders::digest};

    public static void main(String[] args) {
        Cases.run(StateBoundariesTest.class, check, 28, 29);
        check.end();
    }

    // ---- promise 28

    @Says("Throws `IllegalStateException` if there is no saved state")
    static void promise28_undo_noSavedState() {
        check.refused("fresh", Check.STATE, Scenes::fresh, EdgeHolders::undo);
        check.refused("behind the last undo", Check.STATE, StateBoundariesTest::undone, EdgeHolders::undo);
        EdgeHolders x = undone();
        check.dueThrown("once", Check.STATE, x::undo);
        check.dueThrown("and again", Check.STATE, x::undo);
        x.add(0, 1);
        check.due("a new state", 0, x.undo());
        check.dueThrown("and none", Check.STATE, x::undo);
    }

    private static EdgeHolders undone() {
        EdgeHolders x = Scenes.busy();
        for (int left = 3; left >= 0; left--) {
            x.undo();
        }
        return x;
    }

    @Says("Returns the number of saved states that remain.")
    static void promise28_undo_fromOneToFourSavedStates() {
        for (int saved = 1; saved <= 4; saved++) {
            EdgeHolders x = new EdgeHolders();
            for (int call = 1; call <= saved; call++) {
                x.setCapacity(0, 10 + call);
            }
            for (int left = saved - 1; left >= 0; left--) {
                check.due("undo", left, x.undo());
                check.due("the state before the call " + (left + 1), left == 0 ? 3 : 10 + left, x.node(0, 2));
            }
            check.dueThrow("no more", x, Check.STATE, x::undo);
        }
    }

    @Says("at most 4 states are saved, and the oldest is dropped first")
    static void promise28_undo_theFifthSavedStateDropsTheOldest() {
        for (int calls = 5; calls <= 13; calls++) {
            EdgeHolders x = new EdgeHolders();
            for (int call = 1; call <= calls; call++) {
                x.setCapacity(0, 10 + call);
            }
            for (int left = 3; left >= 0; left--) {
                check.due("undo of " + calls, left, x.undo());
                check.due("capacity of " + calls, 10 + calls - 4 + left, x.node(0, 2));
            }
            check.dueThrow("a fifth undo of " + calls, x, Check.STATE, x::undo);
            check.due("the oldest ones are dropped", 10 + calls - 4, x.node(0, 2));
        }
    }

    @Says("at most 4 states are saved, and the oldest is dropped first")
    static void promise28_undo_savedAgainBehindUndo() {
        for (int undone = 0; undone <= 4; undone++) {
            for (int more = 0; more <= 6; more++) {
                List<Integer> due = new ArrayList<>(List.of(11, 12, 13, 14));
                EdgeHolders x = new EdgeHolders();
                for (int capacity = 11; capacity <= 15; capacity++) {
                    x.setCapacity(0, capacity);
                }
                int now = 15;
                for (int call = 0; call < undone; call++) {
                    check.due("left", due.size() - 1, x.undo());
                    now = due.remove(due.size() - 1);
                }
                for (int call = 0; call < more; call++) {
                    check.due("the capacity before", now, x.setCapacity(0, 20 + call));
                    due.add(now);
                    now = 20 + call;
                    if (due.size() > 4) {
                        due.remove(0);
                    }
                }
                for (int left = due.size() - 1; left >= 0; left--) {
                    check.due("left then", left, x.undo());
                    check.due("capacity", due.get(left), x.node(0, 2));
                }
                check.dueThrown("none", Check.STATE, x::undo);
            }
        }
    }

    @Says("Each successful call of a method whose description says \"undoable\" saves the state from before the call, even if the call changes nothing")
    static void promise28_undo_eachUndoableCallSavesOneState() {
        for (int at = 0; at < UNDOABLE.length; at++) {
            Check.Deed call = UNDOABLE_CALLS[at];
            EdgeHolders x = Scenes.one();
            call.to(x);
            check.due(UNDOABLE[at] + ": the state before it remains", 1, x.undo());
            check.due(UNDOABLE[at] + ": and that one, too", 0, x.undo());
            check.dueThrown(UNDOABLE[at] + ": no more", Check.STATE, x::undo);
            Look.dueAlike(check, UNDOABLE[at] + " undone", Scenes::one, () -> {
                EdgeHolders y = Scenes.one();
                call.to(y);
                y.undo();
                y.clearText();
                return y;
            });
        }
    }

    @Says("at most 4 states are saved, and the oldest is dropped first")
    static void promise28_undo_eachUndoableCallDropsTheOldestOfFour() {
        for (int at = 0; at < UNDOABLE.length; at++) {
            EdgeHolders x = Scenes.one();
            x.setCapacity(5, 11);
            x.setCapacity(5, 12);
            x.setCapacity(5, 13);
            UNDOABLE_CALLS[at].to(x);
            check.due(UNDOABLE[at] + ": three remain", 3, x.undo());
            check.due(UNDOABLE[at] + " is undone", 13, x.node(5, 2));
            check.due(UNDOABLE[at] + ": two remain", 2, x.undo());
            check.due(UNDOABLE[at] + ": one remains", 1, x.undo());
            check.due(UNDOABLE[at] + ": the last one", 0, x.undo());
            check.due(UNDOABLE[at] + ": the edges stay", 3, x.value(1));
            check.due(UNDOABLE[at] + ": the first capacity", 3, x.node(5, 2));
            check.dueThrown(UNDOABLE[at] + ": the oldest is dropped", Check.STATE, x::undo);
        }
    }

    @Says("Each successful call of a method whose description says \"undoable\"")
    static void promise28_undo_noOtherCallSavesAState() {
        for (int at = 0; at < OTHER.length; at++) {
            EdgeHolders x = Scenes.one();
            OTHER_CALLS[at].to(x);
            check.due(OTHER[at] + ": the one state", 0, x.undo());
            check.dueThrown(OTHER[at] + ": no other", Check.STATE, x::undo);
            EdgeHolders four = Scenes.busy();
            OTHER_CALLS[at].to(four);
            for (int left = 3; left >= 0; left--) {
                check.due(OTHER[at] + ": four states", left, four.undo());
            }
            check.due(OTHER[at] + ": the oldest is not dropped", 4, four.value(1));
        }
    }

    @Says("A call that throws an exception changes nothing.")
    static void promise28_undo_noRefusedCallSavesAState() {
        Check.Deed[] calls = {
            x -> x.begin(1), x -> x.begin(13), x -> x.add(6, 0), x -> x.add(0, 0), x -> x.remove(3), x -> x.turn(3),
            x -> x.relieve(3), x -> x.relieve(6), x -> x.setCapacity(6, 1), x -> x.setCapacity(0, 41)};
        for (Check.Deed call : calls) {
            EdgeHolders x = Scenes.one();
            check.that("the call throws", Check.thrownBy(() -> call.to(x)) != null);
            check.due("the one state", 0, x.undo());
            EdgeHolders four = Scenes.busy();
            check.that("the call throws at four states", Check.thrownBy(() -> call.to(four)) != null);
            for (int left = 3; left >= 0; left--) {
                check.due("four states", left, four.undo());
            }
            check.due("the oldest is not dropped", 4, four.value(1));
        }
    }

    @Says("The saved state contains everything except the text.")
    static void promise28_undo_restoresEverythingExceptTheText() {
        EdgeHolders x = Scenes.full();
        x.begin(2);
        x.clearText();
        x.append('b');
        check.due("undo", 3, x.undo());
        check.due("the text stays", 1, x.clearText());
        Look[] everythingElse = {Look.NODES, Look.EDGES, Look.PATHS, Look.PARTS, Look.WHAT_IF};
        for (Look.Maker maker : new Look.Maker[] {Scenes::fresh, Scenes::busy, Scenes::full}) {
            for (Look look : everythingElse) {
                check.dueText("" + look, look.at(maker.make()), look.at(changedAndUndone(maker)));
            }
            EdgeHolders before = maker.make();
            EdgeHolders then = changedAndUndone(maker);
            for (int what = 0; what < 8; what++) {
                check.due("value " + what, before.value(what), then.value(what));
            }
            check.due("tooDense", before.tooDense(), then.tooDense());
            check.due("critical", before.critical(), then.critical());
        }
    }

    private static EdgeHolders changedAndUndone(Look.Maker maker) {
        EdgeHolders x = maker.make();
        x.begin(3);
        x.turn(x.add(0, 1));
        x.setCapacity(1, 0);
        for (int left = 3; left >= 0; left--) {
            x.undo();
        }
        return x;
    }

    @Says("even if the call changes nothing")
    static void promise28_undo_aCallThatChangesNothingSavesAState() {
        Check.Deed[] calls = {EdgeHolders::balance, x -> x.setCapacity(5, 3), x -> x.begin(6), EdgeHolders::carryOut};
        for (Check.Deed call : calls) {
            EdgeHolders x = new EdgeHolders();
            call.to(x);
            check.due("one state", 0, x.undo());
            check.dueThrown("no more", Check.STATE, x::undo);
        }
    }

    @Says("Restores the most recently saved state and removes it from the saved states.")
    static void promise28_undo_aSavedStateStaysAsItWasSaved() {
        EdgeHolders x = Scenes.one();
        x.turn(0);
        x.turn(0);
        x.add(4, 5);
        x.remove(1);
        check.due("three edges of four", 3, x.value(1));
        x.undo();
        check.dueRow("turnings with all four edges", Check.row(2, 1, 0, 0), Check.edgeValues(x, 3));
        x.undo();
        check.dueRow("turnings of three", Check.row(2, 1, 0), Check.edgeValues(x, 3));
        x.undo();
        check.dueRow("turned once", Check.row(1, 1, 0), Check.edgeValues(x, 3));
        check.due("all turnings", 2, x.value(5));
        x.undo();
        check.dueRow("not turned", Check.row(0, 1, 0), Check.edgeValues(x, 3));
        check.due("all turnings then", 1, x.value(5));
    }

    @Says("2 to 12 nodes, initially 6")
    static void promise28_undo_fromTwoNodesToTwelveAndBack() {
        EdgeHolders x = Scenes.full();
        x.setCapacity(11, 40);
        x.begin(2);
        x.add(1, 0);
        x.undo();
        x.undo();
        check.due("twelve nodes", 12, x.value(0));
        check.due("forty edges", 40, x.value(1));
        check.due("a capacity", 40, x.node(11, 2));
        check.due("all nodes are a part", 40, x.inner(4095));
        check.dueThrow("full again", x, Check.STATE, () -> x.add(0, 1));
        x.begin(12);
        x.begin(2);
        x.undo();
        check.due("twelve nodes without edges", 4095, x.densest());
    }

    // ---- promise 29

    @Says("Returns the hash, with the overflow of long arithmetic ignored.")
    static void promise29_digest_overflows() {
        Look.Maker[] makers = {Scenes::fresh, Scenes::busy, Scenes::full, () -> Scenes.pair(0), () -> Scenes.pair(40),
            Scenes::rowOfTwelve, StateBoundariesTest::undone, StateBoundariesTest::heavy};
        int negative = 0;
        for (Look.Maker maker : makers) {
            BigInteger exact = exactDigest(maker);
            long digest = maker.make().digest();
            check.that("the exact hash is more than a long can hold", exact.bitLength() > 63);
            check.due("the hash without what overflows", exact.longValue(), digest);
            negative += digest < 0 ? 1 : 0;
        }
        check.that("there is a digest below 0 and one above", negative > 0 && negative < makers.length);
    }

    /** The greatest values: a load of 40, 1600 as the sum of the squares, and a part that is too dense. */
    private static EdgeHolders heavy() {
        EdgeHolders x = Scenes.fortyOfOne();
        x.setCapacity(0, 0);
        x.setCapacity(1, 0);
        return x;
    }

    private static BigInteger exactDigest(Look.Maker maker) {
        List<Integer> all = new ArrayList<>();
        EdgeHolders x = maker.make();
        EdgeHolders other = maker.make();
        for (int what = 0; what <= 7; what++) {
            all.add(x.value(what));
        }
        for (int node = 0; node < all.get(0); node++) {
            for (int what = 0; what <= 4; what++) {
                all.add(x.node(node, what));
            }
        }
        int edges = all.get(1);
        for (int index = 0; index < edges; index++) {
            int edge = other.edgeAt(index);
            all.add(edge);
            for (int what = 0; what <= 3; what++) {
                all.add(other.edge(edge, what));
            }
        }
        all.addAll(List.of(x.densest(), x.least(), x.tooDense()));
        all.add(0, x.clearText());
        all.add(savedStates(x));
        BigInteger hash = BigInteger.valueOf(3779);
        for (int value : all) {
            hash = hash.multiply(BigInteger.valueOf(31)).add(BigInteger.valueOf(value));
        }
        return hash;
    }

    private static int savedStates(EdgeHolders x) {
        int saved = 0;
        while (saved < 10 && Check.thrownBy(x::undo) == null) {
            saved++;
        }
        return saved;
    }

    @Says("the number of saved states")
    static void promise29_digest_endsWithTheSavedStates() {
        EdgeHolders x = new EdgeHolders();
        long before = x.digest();
        for (int saved = 1; saved <= 6; saved++) {
            x.setCapacity(0, 3);
            check.due("at most four", before + Math.min(saved, 4), x.digest());
        }
        for (int left = 3; left >= 0; left--) {
            x.undo();
            check.due("less by undo", before + left, x.digest());
        }
    }

    @Says("the length of the text")
    static void promise29_digest_beginsWithTheLengthOfTheText() {
        EdgeHolders x = new EdgeHolders();
        long before = x.digest();
        long weight = 1;
        for (int value = 0; value < 8 + 6 * 5 + 4; value++) {
            weight *= 31;
        }
        for (int length = 1; length <= 100; length++) {
            x.append('z');
            check.due("length " + length, before + length * weight, x.digest());
        }
        x.clearText();
        check.due("no text", before, x.digest());
    }

    @Says("Start with h = 3779 and, for each of the following values v, set h = 31 * h + v")
    static void promise29_digest_ofTwoNodesWithoutEdges() {
        EdgeHolders x = new EdgeHolders();
        x.begin(2);
        long h = 3779;
        for (int v : new int[] {0, 2, 0, 0, 0, 0, 0, 0, 0, 0, 0, 3, 0, 1, 0, 0, 3, 0, 2, 3, 0, -1, 1}) {
            h = 31 * h + v;
        }
        check.due("digest", h, x.digest());
    }

    @Says("Returns a hash of the state.")
    static void promise29_digest_changesNothing() {
        for (Look.Maker maker : new Look.Maker[] {Scenes::fresh, Scenes::busy, Scenes::full}) {
            Look.dueAlike(check, "asked twice", maker, () -> {
                EdgeHolders x = maker.make();
                check.due("the same twice", x.digest(), x.digest());
                return x;
            });
        }
    }
}
