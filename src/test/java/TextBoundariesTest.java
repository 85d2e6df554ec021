/** The boundary cases of the promises 25 to 27: append, clearText, carryOut. */
public final class TextBoundariesTest {
    private static final Check check = new Check();
    private static final String DIGITS = "0123456789";
    private static final String LETTERS = "abcdefghijkl";

    public static void main(String[] args) {
        Cases.run(TextBoundariesTest.class, check, 25, 27);
        check.end();
    }

    // ---- promise 25

    @Says("`value`: the byte, 0 to 127")
    static void promise25_append_bytesFrom0To127() {
        EdgeHolders x = new EdgeHolders();
        check.due("the byte 0", 1, x.append(0));
        check.due("the byte 127", 2, x.append(127));
        for (int value = 0; value <= 127; value++) {
            EdgeHolders y = new EdgeHolders();
            check.due("the byte " + value, 1, y.append(value));
        }
        check.refused("-1", Check.ARGUMENT, Scenes::busy, y -> y.append(-1));
        check.refused("128", Check.ARGUMENT, Scenes::busy, y -> y.append(128));
        check.refused("128, fresh", Check.ARGUMENT, Scenes::fresh, y -> y.append(128));
        for (int value : new int[] {129, 255, 256, 256 + 'b', -128, 65536 + 'b', Integer.MAX_VALUE, Integer.MIN_VALUE}) {
            check.dueThrow("" + value, x, Check.ARGUMENT, () -> x.append(value));
        }
    }

    @Says("Throws `IllegalStateException` if the text has 100 bytes")
    static void promise25_append_theHundredthByteAndOneMore() {
        EdgeHolders x = new EdgeHolders();
        for (int length = 1; length <= 99; length++) {
            check.due("append", length, x.append(length % 2 == 1 ? 'b' : ';'));
        }
        check.due("the hundredth", 100, x.append(';'));
        check.dueThrow("one more", x, Check.STATE, () -> x.append(';'));
        check.due("all hundred are there", 50, x.carryOut());
        check.due("and no more", 100, x.clearText());
        check.refused("at 100 bytes", Check.STATE, Scenes::full, y -> y.append('b'));
        check.refused("the byte 0 at 100 bytes", Check.STATE, Scenes::full, y -> y.append(0));
    }

    @Says("If several exceptions apply, the one that is listed first is thrown.")
    static void promise25_append_ofSeveralExceptionsTheFirst() {
        check.refused("128 at 100 bytes", Check.ARGUMENT, Scenes::full, x -> x.append(128));
        check.refused("-1 at 100 bytes", Check.ARGUMENT, Scenes::full, x -> x.append(-1));
    }

    @Says("The saved state contains everything except the text.")
    static void promise25_append_savesNoState() {
        EdgeHolders x = new EdgeHolders();
        x.append('b');
        check.dueThrow("no state", x, Check.STATE, x::undo);
        EdgeHolders y = Scenes.pair(1);
        y.append('b');
        check.due("the add is undone", 1, y.undo());
        check.due("the text stays", 2, y.append(';'));
        check.due("both bytes", 1, y.carryOut());
    }

    // ---- promise 26

    @Says("Returns the length that it had.")
    static void promise26_clearText_noneOneAndHundredBytes() {
        EdgeHolders x = new EdgeHolders();
        check.due("no text", 0, x.clearText());
        x.append('b');
        check.due("one byte", 1, x.clearText());
        check.due("no text again", 0, x.clearText());
        EdgeHolders full = Scenes.full();
        check.due("a hundred", 100, full.clearText());
        check.due("none then", 0, full.clearText());
        for (int length = 1; length <= 100; length++) {
            check.due("room for a hundred", length, full.append('b'));
        }
    }

    @Says("Empties the text.")
    static void promise26_clearText_leavesNoOrder() {
        EdgeHolders x = new EdgeHolders();
        Check.type(x, "+ab;+cd;");
        x.clearText();
        check.due("no order", 0, x.carryOut());
        check.due("no edge", 0, x.value(1));
        Check.type(x, "+ab;");
        check.due("the new order alone", 1, x.carryOut());
    }

    @Says("The saved state contains everything except the text.")
    static void promise26_clearText_savesNoStateAndIsNotUndone() {
        EdgeHolders x = new EdgeHolders();
        x.append('b');
        x.clearText();
        check.dueThrow("no state", x, Check.STATE, x::undo);
        EdgeHolders y = Scenes.busy();
        y.clearText();
        check.due("four saved states", 3, y.undo());
        check.due("the text stays empty", 0, y.clearText());
    }

    // ---- promise 27: the syntax

    /** Behind the text that stands already, just these bytes can stand; a semicolon ends the order well. */
    private static void dueBytes(String before, String canStand) {
        for (char value = 0; value <= 127; value++) {
            String text = before + value;
            int position = canStand.indexOf(value) < 0 ? before.length() : value == ';' ? -1 : text.length();
            dueSyntax(text, position);
        }
    }

    /** The syntax error position, or -1 for none. */
    private static void dueSyntax(String text, int position) {
        EdgeHolders x = new EdgeHolders();
        int answer = Check.carryOut(x, text);
        if (position < 0) {
            check.that("'" + text + "' has no syntax error, not " + answer, answer >= 0);
        } else {
            check.due("'" + text + "'", -10 - position, answer);
            check.due("nothing is saved for '" + text + "'", -10 - position, x.carryOut());
            check.dueThrown("undo behind '" + text + "'", Check.STATE, x::undo);
        }
    }

    @Says("There are no spaces; there may be no orders.")
    static void promise27_carryOut_firstBytesOfOrders() {
        dueSyntax("", -1);
        dueBytes("", "+-trbc");
        dueBytes("b;", "+-trbc");
        dueBytes("+ab;", "+-trbc");
        dueBytes("ca=40;", "+-trbc");
        dueBytes("t007;", "+-trbc");
    }

    @Says("\"+\" and two node letters a to l, to add an edge")
    static void promise27_carryOut_bytesOfAdding() {
        dueBytes("+", LETTERS);
        dueBytes("+a", LETTERS);
        dueBytes("+l", LETTERS);
        dueBytes("+ab", ";");
        dueBytes("+ll", ";");
    }

    @Says("\"-\" and an edge number of one to three digits, to remove it")
    static void promise27_carryOut_bytesOfRemoving() {
        dueBytes("-", DIGITS);
        dueBytes("-0", DIGITS + ";");
        dueBytes("-9", DIGITS + ";");
        dueBytes("-00", DIGITS + ";");
        dueBytes("-99", DIGITS + ";");
        dueBytes("-000", ";");
        dueBytes("-999", ";");
    }

    @Says("\"t\" and an edge number of one to three digits, to turn it")
    static void promise27_carryOut_bytesOfTurning() {
        dueBytes("t", DIGITS);
        dueBytes("t0", DIGITS + ";");
        dueBytes("t41", DIGITS + ";");
        dueBytes("t041", ";");
        dueBytes("t999", ";");
    }

    @Says("\"r\" and a node letter, to relieve it; \"b\", to balance")
    static void promise27_carryOut_bytesOfRelievingAndBalancing() {
        dueBytes("r", LETTERS);
        dueBytes("ra", ";");
        dueBytes("rl", ";");
        dueBytes("b", ";");
    }

    @Says("\"c\", a node letter, \"=\", and a number of one or two digits, 0 to 40, to set a capacity")
    static void promise27_carryOut_bytesOfCapacities() {
        dueBytes("c", LETTERS);
        dueBytes("ca", "=");
        dueBytes("cl", "=");
        dueBytes("ca=", DIGITS);
        dueBytes("ca=0", DIGITS + ";");
        dueBytes("ca=3", DIGITS + ";");
        dueBytes("ca=00", ";");
        dueBytes("ca=07", ";");
        dueBytes("ca=40", ";");
        dueBytes("cl=39", ";");
    }

    @Says("For a number that is out of its range it is the index of its first digit")
    static void promise27_carryOut_eachCapacityOfTwoDigits() {
        for (int capacity = 0; capacity < 100; capacity++) {
            String digits = "" + capacity / 10 + capacity % 10;
            dueSyntax("cf=" + digits, capacity <= 40 ? 5 : 3);
            dueSyntax("cf=" + digits + ";", capacity <= 40 ? -1 : 3);
            dueSyntax("b;cf=" + digits + ";b;", capacity <= 40 ? -1 : 5);
            EdgeHolders x = new EdgeHolders();
            int answer = Check.carryOut(x, "cf=" + digits + ";");
            check.due("orders of " + digits, capacity <= 40 ? 1 : -13, answer);
            check.due("capacity by " + digits, capacity <= 40 ? capacity : 3, x.node(5, 2));
        }
    }

    @Says("found when a byte that is no digit, whichever it is, or the end of the text, follows it")
    static void promise27_carryOut_whatFollowsACapacityOutOfRange() {
        for (char value = 0; value <= 127; value++) {
            boolean isDigit = DIGITS.indexOf(value) >= 0;
            dueSyntax("ca=41" + value, isDigit ? 5 : 3);
            dueSyntax("ca=99" + value, isDigit ? 5 : 3);
            dueSyntax("ca=50" + value + ";", isDigit ? 5 : 3);
            dueSyntax("+ab;ca=41" + value, isDigit ? 9 : 7);
        }
        dueSyntax("ca=41", 3);
        dueSyntax("ca=4", 4);
        dueSyntax("ca=410", 5);
        dueSyntax("ca=410;", 5);
        dueSyntax("ca=9999", 5);
    }

    @Says("the index of the first byte that cannot stand where it stands (a digit too many, too)")
    static void promise27_carryOut_aDigitTooMany() {
        dueSyntax("ca=040", 5);
        dueSyntax("ca=000;", 5);
        dueSyntax("ca=400;", 5);
        dueSyntax("-0000;", 4);
        dueSyntax("-1000;", 4);
        dueSyntax("t0001;", 4);
        dueSyntax("b;t1234;", 6);
    }

    @Says("or the length of the text if the text ends too early")
    static void promise27_carryOut_theTextEndsTooEarly() {
        String[] texts = {"+", "+a", "+ab", "-", "-1", "-12", "-123", "t", "t1", "t12", "t123", "r", "ra", "b", "c", "ca",
            "ca=", "ca=1", "ca=40", "b;b", "+ab;-0", "b;ca=4"};
        for (String text : texts) {
            dueSyntax(text, text.length());
        }
    }

    @Says("Letters and numbers of nodes and edges that there are not are no syntax errors.")
    static void promise27_carryOut_namesThatThereAreNot() {
        for (String order : new String[] {"+gh;", "+al;", "-0;", "-999;", "t0;", "t999;", "rg;", "rl;", "cg=1;", "cl=40;", "+aa;"}) {
            EdgeHolders x = new EdgeHolders();
            x.begin(6);
            check.due(order, 0, Check.carryOut(x, order));
            check.due("it saves a state", 1, x.undo());
        }
    }

    @Says("The text has at most 100 bytes.")
    static void promise27_carryOut_aTextOf100Bytes() {
        dueSyntax("b;".repeat(50), -1);
        dueSyntax("b;".repeat(49) + "bb", 99);
        dueSyntax("b;".repeat(49) + "b", 99);
        dueSyntax("b;".repeat(49) + "x;", 98);
        dueSyntax("b;".repeat(48) + "+ab;", -1);
        dueSyntax("b;".repeat(48) + "+abc", 99);
        dueSyntax("b;".repeat(48) + "-123", 100);
        dueSyntax("b;".repeat(48) + "-12;", -1);
        dueSyntax("b;".repeat(47) + "ca=40;", -1);
        dueSyntax("b;".repeat(47) + "ca=41;", 97);
        dueSyntax("b;".repeat(47) + "b;" + "ca=9", 100);
        dueSyntax("b;".repeat(47) + "cca=41", 96);
        EdgeHolders x = new EdgeHolders();
        check.due("fifty orders", 50, Check.carryOut(x, "b;".repeat(50)));
        check.due("twenty-five orders", 25, Check.carryOut(x, "+ab;".repeat(25)));
        check.due("all of them", 25, x.value(1));
    }

    @Says("-10 minus the syntax error position if there is a syntax error (then nothing changes)")
    static void promise27_carryOut_aSyntaxErrorChangesNothing() {
        dueNothing(";", 0);
        dueNothing("+ab;t0;b;x", 9);
        dueNothing("+ab;cc=41;", 7);
        dueNothing("-0;+ab", 6);
        dueNothing("-999;+ab;+a;", 11);
    }

    private static void dueNothing(String text, int position) {
        check.due("'" + text + "'", -10 - position, Check.carryOut(Scenes.busy(), text));
        Look.dueAlike(check, "behind '" + text + "'", () -> typed(text), () -> {
            EdgeHolders x = typed(text);
            x.carryOut();
            return x;
        });
    }

    private static EdgeHolders typed(String text) {
        EdgeHolders x = Scenes.busy();
        Check.type(x, text);
        return x;
    }

    // ---- promise 27: the orders

    @Says("there may be no orders")
    static void promise27_carryOut_withoutAText() {
        EdgeHolders x = new EdgeHolders();
        check.due("no orders", 0, x.carryOut());
        check.due("one state is saved", 0, x.undo());
        check.dueThrow("and no more", x, Check.STATE, x::undo);
    }

    @Says("one saved state, also if no order is carried out")
    static void promise27_carryOut_savesOneStateForAllOrders() {
        EdgeHolders many = new EdgeHolders();
        check.due("25 orders", 25, Check.carryOut(many, "+ab;".repeat(25)));
        check.due("one state", 0, many.undo());
        check.due("none of them", 0, many.value(1));
        EdgeHolders none = new EdgeHolders();
        check.due("the first order throws", 0, Check.carryOut(none, "-0;+ab;"));
        check.due("one state then", 0, none.undo());
        EdgeHolders full = Scenes.busy();
        check.due("no order at four states", 0, Check.carryOut(full, ""));
        for (int left = 3; left >= 0; left--) {
            check.due("the oldest one is dropped", left, full.undo());
        }
        check.due("the state before the fifth add is dropped", 5, full.value(1));
    }

    @Says("Carries out the orders of the text, up to the first one that would throw an exception (that one is not carried out).")
    static void promise27_carryOut_upToTheFirstThatWouldThrow() {
        String[] throwing = {"+aa;", "+gg;", "+ga;", "+ag;", "+la;", "-3;", "-5;", "-999;", "t3;", "t5;", "rb;", "rd;", "rf;",
            "rg;", "rl;", "cg=0;", "cl=40;"};
        for (String order : throwing) {
            Look.dueAlike(check, order, () -> behind("cf=9;t0;", 2), () -> behind("cf=9;t0;" + order + "cf=8;t0;-1;", 2));
            Look.dueAlike(check, order + " first", () -> behind("", 0), () -> behind(order + "cf=8;", 0));
        }
    }

    @Says("up to the first one that would throw an exception (that one is not carried out)")
    static void promise27_carryOut_theOrdersAheadOfOneThatWouldThrow() {
        String[] well = {"+ac;", "-0;", "t1;", "ra;", "b;", "ca=0;"};
        for (String order : well) {
            for (String throwing : new String[] {"+kl;", "+ll;", "-999;", "t999;", "rl;", "cl=40;"}) {
                Look.dueAlike(check, order + throwing, () -> behind(order, 1), () -> behind(order + throwing + "b;", 1));
            }
        }
    }

    /** A busy object that carried out so many orders; without the text, whose length would be seen. */
    private static EdgeHolders behind(String text, int orders) {
        EdgeHolders x = Scenes.busy();
        check.due("orders of '" + text + "'", orders, Check.carryOut(x, text));
        x.clearText();
        return x;
    }

    @Says("Carries out the orders of the text")
    static void promise27_carryOut_eachOrderDoesWhatItsCallDoes() {
        String[] orders = {"+ac;", "+fa;", "-0;", "-004;", "t1;", "t04;", "ra;", "b;", "ca=0;", "cf=40;", "cf=07;"};
        Check.Deed[] calls = {x -> x.add(0, 2), x -> x.add(5, 0), x -> x.remove(0), x -> x.remove(4), x -> x.turn(1),
            x -> x.turn(4), x -> x.relieve(0), EdgeHolders::balance, x -> x.setCapacity(0, 0), x -> x.setCapacity(5, 40),
            x -> x.setCapacity(5, 7)};
        for (int at = 0; at < orders.length; at++) {
            String order = orders[at];
            Check.Deed call = calls[at];
            Look.dueAlike(check, order, () -> {
                EdgeHolders x = Scenes.busy();
                x.clearText();
                call.to(x);
                return x;
            }, () -> {
                EdgeHolders x = Scenes.busy();
                check.due("orders of " + order, 1, Check.carryOut(x, order));
                x.clearText();
                return x;
            });
        }
    }

    @Says("Numbers can have zeros in front.")
    static void promise27_carryOut_numbersWithZerosInFront() {
        for (String order : new String[] {"t1;", "t01;", "t001;"}) {
            EdgeHolders x = Scenes.pair(3);
            check.due(order, 1, Check.carryOut(x, order));
            check.dueRow("turned by " + order, Check.row(0, 1, 0), Check.edgeValues(x, 3));
        }
        for (String order : new String[] {"-0;", "-00;", "-000;"}) {
            EdgeHolders x = Scenes.pair(3);
            check.due(order, 1, Check.carryOut(x, order));
            check.due("removed by " + order, 1, x.edgeAt(0));
        }
        EdgeHolders x = new EdgeHolders();
        check.due("capacities", 3, Check.carryOut(x, "ca=0;cb=00;cc=09;"));
        check.dueRow("set", Check.row(0, 0, 9, 3, 3, 3), Check.nodeValues(x, 2));
    }

    @Says("an edge number of one to three digits")
    static void promise27_carryOut_edgeNumbersOfThreeDigits() {
        EdgeHolders x = Scenes.pair(0);
        for (int edge = 0; edge < 111; edge++) {
            x.add(0, 1);
            x.remove(edge);
        }
        x.add(0, 1);
        x.add(0, 1);
        check.due("turned", 2, Check.carryOut(x, "t111;t112;"));
        check.dueRow("turnings", Check.row(1, 1), Check.edgeValues(x, 3));
        check.due("not 11 and not 12", 0, Check.carryOut(x, "t11;"));
        check.due("removed", 1, Check.carryOut(x, "-111;"));
        check.due("the other one stays", 112, x.edgeAt(0));
    }

    @Says("also called a to l in texts")
    static void promise27_carryOut_nodesFromAToL() {
        EdgeHolders x = Scenes.held(12);
        check.due("orders", 12, Check.carryOut(x, "ca=1;cb=2;cc=4;cd=5;ce=6;cf=7;cg=8;ch=9;ci=10;cj=11;ck=12;cl=13;"));
        check.dueRow("capacities", Check.row(1, 2, 4, 5, 6, 7, 8, 9, 10, 11, 12, 13), Check.nodeValues(x, 2));
        check.due("edges", 2, Check.carryOut(x, "+la;+al;"));
        check.dueRow("first ends", Check.row(11, 0), Check.edgeValues(x, 0));
        check.dueRow("second ends", Check.row(0, 11), Check.edgeValues(x, 1));
        check.due("relieve l", 3, Check.carryOut(x, "+kl;t1;rl;"));
    }

    @Says("There are at most 40")
    static void promise27_carryOut_theFortiethEdgeAndOneMore() {
        EdgeHolders x = Scenes.pair(38);
        check.due("two of three", 2, Check.carryOut(x, "+ab;+ab;+ab;b;"));
        check.due("edges", 40, x.value(1));
        check.due("the next number", 40, x.value(6));
        check.due("room behind a remove", 2, Check.carryOut(x, "-39;+ba;+ab;"));
        check.due("the number is not used again", 40, x.edgeAt(39));
        check.due("both the same", 1, Check.carryOut(x, "b;+aa;b;"));
    }

    @Says("whose load is at most the load of u minus 2")
    static void promise27_carryOut_relievingByTwoAndByOne() {
        EdgeHolders two = Scenes.held(2, "ab", "ab");
        check.due("2 and 0", 1, Check.carryOut(two, "ra;ra;b;"));
        check.dueRow("once", Check.row(1, 1), Check.nodeValues(two, 0));
        EdgeHolders one = Scenes.held(2, "ab");
        check.due("1 and 0", 0, Check.carryOut(one, "ra;b;"));
    }

    @Says("The text stays as it is.")
    static void promise27_carryOut_theTextStays() {
        EdgeHolders x = new EdgeHolders();
        check.due("orders", 2, Check.carryOut(x, "+ab;+bc;-9;"));
        check.due("once more", 2, x.carryOut());
        check.due("edges", 4, x.value(1));
        x.undo();
        check.due("behind undo, too", 2, x.carryOut());
        check.due("its length", 11, x.clearText());
        EdgeHolders wrong = new EdgeHolders();
        check.due("a wrong text", -11, Check.carryOut(wrong, "+"));
        check.due("its end is added", 1, wrong.append('a') + wrong.append('b') + wrong.append(';') - 8);
        check.due("and it is well", 1, wrong.carryOut());
    }
}
