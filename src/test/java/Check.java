import java.util.Arrays;
import java.util.NoSuchElementException;

/** Compares answers with those that are due, prints each that is not, and ends the test with exit code 1 then. */
final class Check {
    interface Call {
        void make();
    }

    static final Class<IllegalArgumentException> ARGUMENT = IllegalArgumentException.class;
    static final Class<IllegalStateException> STATE = IllegalStateException.class;
    static final Class<IndexOutOfBoundsException> INDEX = IndexOutOfBoundsException.class;
    static final Class<NoSuchElementException> ELEMENT = NoSuchElementException.class;

    // A class that does not come to an end is to fail, too.
    private static final long MOST_MILLISECONDS = 120_000;

    private int checks;
    private int wrong;
    private String where = "";

    Check() {
        Thread watch = new Thread(this::endLateTest);
        watch.setDaemon(true);
        watch.start();
    }

    private void endLateTest() {
        try {
            Thread.sleep(MOST_MILLISECONDS);
        } catch (InterruptedException e) {
            return;
        }
        System.out.println(where + "no end after " + MOST_MILLISECONDS + " ms");
        Runtime.getRuntime().halt(1);
    }

    /** What is checked from here on is reported with this name in front. */
    void enter(String name) {
        where = name;
    }

    void due(String what, long want, long got) {
        checks++;
        if (got != want) {
            report(what + " answered " + got + ", due is " + want);
        }
    }

    void dueReal(String what, double want, double got) {
        checks++;
        if (Double.compare(got, want) != 0) {
            report(what + " answered " + got + ", due is " + want);
        }
    }

    void dueRow(String what, int[] want, int[] got) {
        checks++;
        if (!Arrays.equals(got, want)) {
            report(what + " answered " + Arrays.toString(got) + ", due is " + Arrays.toString(want));
        }
    }

    void dueText(String what, String want, String got) {
        checks++;
        if (!got.equals(want)) {
            report(what + " answered " + got + ", due is " + want);
        }
    }

    void that(String what, boolean holds) {
        checks++;
        if (!holds) {
            report(what + " does not hold");
        }
    }

    interface Deed {
        void to(EdgeHolders x);
    }

    /** The call throws exactly this exception, and the digest stays; few calls, as an object answers 512 of them. */
    void dueThrow(String what, EdgeHolders x, Class<? extends RuntimeException> kind, Call call) {
        long before = x.digest();
        dueThrown(what, kind, call);
        due(what + " changes nothing: digest", before, x.digest());
    }

    void dueThrown(String what, Class<? extends RuntimeException> kind, Call call) {
        Class<?> thrown = thrownBy(call);
        dueText(what, "throws." + kind.getSimpleName(), thrown == null ? "nothing" : "throws." + thrown.getSimpleName());
    }

    /** The call throws exactly this exception; all answers are the same before and behind it, those of undo, too. */
    void refused(String what, Class<? extends RuntimeException> kind, Look.Maker maker, Deed deed) {
        EdgeHolders x = maker.make();
        String before = Look.NUMBERS.at(x);
        dueThrown(what, kind, () -> deed.to(x));
        dueText(what + ", before and behind it", before, Look.NUMBERS.at(x));
        Look.dueAlike(this, what + ", as without it", maker, () -> {
            EdgeHolders y = maker.make();
            thrownBy(() -> deed.to(y));
            return y;
        });
    }

    static Class<?> thrownBy(Call call) {
        try {
            call.make();
        } catch (RuntimeException e) {
            return e.getClass();
        }
        return null;
    }

    static String picture(EdgeHolders x) {
        StringBuilder seen = new StringBuilder();
        for (int what = 0; what < 8; what++) {
            seen.append(x.value(what)).append(' ');
        }
        for (int node = 0; node < x.value(0); node++) {
            for (int what = 0; what < 5; what++) {
                seen.append(x.node(node, what)).append(' ');
            }
        }
        for (int index = 0; index < x.value(1); index++) {
            int edge = x.edgeAt(index);
            seen.append(edge).append(':');
            for (int what = 0; what < 4; what++) {
                seen.append(x.edge(edge, what)).append(' ');
            }
        }
        return seen.append(x.digest()).toString();
    }

    static int[] loads(EdgeHolders x) {
        return nodeValues(x, 0);
    }

    static int[] nodeValues(EdgeHolders x, int what) {
        int[] row = new int[x.value(0)];
        for (int node = 0; node < row.length; node++) {
            row[node] = x.node(node, what);
        }
        return row;
    }

    static int[] edgeValues(EdgeHolders x, int what) {
        int[] row = new int[x.value(1)];
        for (int index = 0; index < row.length; index++) {
            row[index] = x.edge(x.edgeAt(index), what);
        }
        return row;
    }

    static int[] row(int... numbers) {
        return numbers;
    }

    /** Adds an edge for each pair of letters. */
    static EdgeHolders withEdges(int nodes, String... pairs) {
        EdgeHolders x = new EdgeHolders();
        x.begin(nodes);
        for (String pair : pairs) {
            x.add(pair.charAt(0) - 'a', pair.charAt(1) - 'a');
        }
        return x;
    }

    static void type(EdgeHolders x, String text) {
        x.clearText();
        for (int i = 0; i < text.length(); i++) {
            x.append(text.charAt(i));
        }
    }

    static int carryOut(EdgeHolders x, String text) {
        type(x, text);
        return x.carryOut();
    }

    private void report(String line) {
        wrong++;
        System.out.println(where + line);
    }

    void end() {
        System.out.println(checks + " checks, " + wrong + " wrong");
        if (wrong != 0 || checks == 0) {
            System.exit(1);
        }
    }
}
