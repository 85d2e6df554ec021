/** Objects to begin a case with. */
final class Scenes {
    static final int[] FAR = {
        32, 33, 64, 255, 256, 1 << 16, Integer.MAX_VALUE - 1, Integer.MAX_VALUE,
        -2, -3, -31, -32, -33, -64, Integer.MIN_VALUE, Integer.MIN_VALUE + 1};

    private Scenes() {
    }

    /** Six nodes, no edge, no text, no saved state. */
    static EdgeHolders fresh() {
        return new EdgeHolders();
    }

    /** Six nodes, the edges 0, 1, 2 and 4, some turned, an overloaded node, a text, and four saved states. */
    static EdgeHolders busy() {
        EdgeHolders x = new EdgeHolders();
        x.add(0, 1);
        x.add(0, 1);
        x.add(1, 2);
        x.add(3, 2);
        x.add(4, 5);
        x.turn(1);
        x.setCapacity(0, 1);
        x.remove(3);
        Check.type(x, "+ad;t1;cb=2;b;");
        return x;
    }

    /** Twelve nodes, the most edges, a text of the most bytes, and the most saved states. */
    static EdgeHolders full() {
        EdgeHolders x = new EdgeHolders();
        x.begin(12);
        for (int edge = 0; edge < 40; edge++) {
            x.add(edge % 11, edge % 11 + 1 + edge % 2 * (10 - edge % 11));
        }
        x.turn(39);
        Check.type(x, "-0;+ab;".repeat(14) + "b;");
        return x;
    }

    /** Two nodes with so many edges between them; both hold the same, or the first one holds one more. */
    static EdgeHolders pair(int edges) {
        EdgeHolders x = new EdgeHolders();
        x.begin(2);
        for (int edge = 0; edge < edges; edge++) {
            x.add(0, 1);
        }
        return x;
    }

    /** For each pair of letters an edge that joins both; it is held by the first one, its first end. */
    static EdgeHolders held(int nodes, String... pairs) {
        EdgeHolders x = new EdgeHolders();
        x.begin(nodes);
        for (String pair : pairs) {
            int holder = pair.charAt(0) - 'a';
            int edge = x.add(holder, pair.charAt(1) - 'a');
            if (x.edge(edge, 2) != holder) {
                x.turn(edge);
            }
        }
        return x;
    }

    /** Three edges and one saved state: the text made them all. */
    static EdgeHolders one() {
        EdgeHolders x = new EdgeHolders();
        Check.carryOut(x, "+ab;+ab;+bc;t1;");
        x.clearText();
        return x;
    }

    /** Four nodes; each digit of the number below 729, in threes, says how many edges join one pair of them. */
    static EdgeHolders small(int graph) {
        String[] pairs = {"ab", "ac", "ad", "bc", "bd", "cd"};
        EdgeHolders x = new EdgeHolders();
        x.begin(4);
        int rest = graph;
        for (String pair : pairs) {
            for (int edge = 0; edge < rest % 3; edge++) {
                x.add(pair.charAt(0) - 'a', pair.charAt(1) - 'a');
            }
            rest /= 3;
        }
        return x;
    }

    /** Twelve nodes in a row: each but the last holds the edge to the next one, the edge n is held by the node n. */
    static EdgeHolders rowOfTwelve() {
        return held(12, "ab", "bc", "cd", "de", "ef", "fg", "gh", "hi", "ij", "jk", "kl");
    }

    /** The same, but the first node holds a second edge, of the number 11, to the second node. */
    static EdgeHolders rowWithTwoAtItsStart() {
        return held(12, "ab", "bc", "cd", "de", "ef", "fg", "gh", "hi", "ij", "jk", "kl", "ab");
    }

    /** Two nodes with forty edges, all held by the first one; the edges with an odd number were turned once. */
    static EdgeHolders fortyOfOne() {
        EdgeHolders x = pair(40);
        for (int edge = 1; edge < 40; edge += 2) {
            x.turn(edge);
        }
        return x;
    }

    /** So many times the same number. */
    static int[] times(int number, int count) {
        int[] row = new int[count];
        java.util.Arrays.fill(row, number);
        return row;
    }
}
