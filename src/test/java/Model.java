import java.util.ArrayList;
import java.util.List;
import java.util.NoSuchElementException;
import java.util.regex.Matcher;
import java.util.regex.Pattern;

/** The document in its slowest form, made apart from the class: with lists, copies, maps of all parts and patterns. */
final class Model {
    private static final class Edge {
        final int number;
        final int[] ends;
        int held;
        int turns;

        Edge(int number, int first, int second) {
            this.number = number;
            this.ends = new int[] {first, second};
        }

        Edge copy() {
            Edge copy = new Edge(number, ends[0], ends[1]);
            copy.held = held;
            copy.turns = turns;
            return copy;
        }

        int holder() {
            return ends[held];
        }

        int other() {
            return ends[1 - held];
        }
    }

    private static final class State {
        List<Edge> edges = new ArrayList<>();
        int[] capacity;
        int next;
        int turned;

        State(int nodes) {
            capacity = new int[nodes];
            java.util.Arrays.fill(capacity, 3);
        }

        State copy() {
            State copy = new State(capacity.length);
            for (Edge edge : edges) {
                copy.edges.add(edge.copy());
            }
            copy.capacity = capacity.clone();
            copy.next = next;
            copy.turned = turned;
            return copy;
        }
    }

    private static final String ORDER =
        "(?:\\+[a-l]{2};|[-t][0-9]{1,3};|r[a-l];|b;|c[a-l]=[0-9]{1,2};)";
    private static final Pattern TEXT = Pattern.compile(ORDER + "*", Pattern.DOTALL);
    private static final Pattern CAPACITY = Pattern.compile(ORDER + "*?c[a-l]=([0-9]{1,2})(?![0-9])", Pattern.DOTALL);

    private State now = new State(6);
    private final List<State> saved = new ArrayList<>();
    private String text = "";

    private void save() {
        saved.add(now.copy());
        if (saved.size() > 4) {
            saved.remove(0);
        }
    }

    private void needNode(int node) {
        if (node < 0 || node >= now.capacity.length) {
            throw new IndexOutOfBoundsException();
        }
    }

    private Edge need(int number) {
        for (Edge edge : now.edges) {
            if (edge.number == number) {
                return edge;
            }
        }
        throw new NoSuchElementException();
    }

    private int load(int node) {
        return (int) now.edges.stream().filter(e -> e.holder() == node).count();
    }

    int begin(int nodes) {
        if (nodes < 2 || nodes > 12) {
            throw new IllegalArgumentException();
        }
        save();
        int before = now.edges.size();
        now = new State(nodes);
        return before;
    }

    private void mayAdd(int first, int second) {
        needNode(first);
        needNode(second);
        if (first == second) {
            throw new IllegalArgumentException();
        }
    }

    private int doAdd(int first, int second) {
        mayAdd(first, second);
        if (now.edges.size() == 40) {
            throw new IllegalStateException();
        }
        Edge edge = new Edge(now.next++, first, second);
        edge.held = load(second) < load(first) ? 1 : 0;
        now.edges.add(edge);
        return edge.number;
    }

    private int doRemove(int number) {
        Edge edge = need(number);
        now.edges.remove(edge);
        return edge.holder();
    }

    private int doTurn(int number) {
        Edge edge = need(number);
        edge.held = 1 - edge.held;
        edge.turns++;
        now.turned++;
        return edge.holder();
    }

    private List<Integer> order(int from) {
        List<Integer> order = new ArrayList<>();
        ways(from, order);
        return order;
    }

    /** For each node the edges of the path to it, or null. */
    private List<List<Edge>> ways(int from, List<Integer> order) {
        List<List<Edge>> ways = new ArrayList<>();
        for (int node = 0; node < now.capacity.length; node++) {
            ways.add(null);
        }
        ways.set(from, new ArrayList<>());
        order.add(from);
        for (int at = 0; at < order.size(); at++) {
            int node = order.get(at);
            for (Edge edge : now.edges) {
                if (edge.holder() == node && ways.get(edge.other()) == null) {
                    List<Edge> way = new ArrayList<>(ways.get(node));
                    way.add(edge);
                    ways.set(edge.other(), way);
                    order.add(edge.other());
                }
            }
        }
        return ways;
    }

    private int doRelieve(int node) {
        needNode(node);
        List<Integer> order = new ArrayList<>();
        List<List<Edge>> ways = ways(node, order);
        for (int target : order) {
            if (load(target) <= load(node) - 2) {
                for (Edge edge : ways.get(target)) {
                    doTurn(edge.number);
                }
                return ways.get(target).size();
            }
        }
        throw new IllegalStateException();
    }

    private int doBalance() {
        int count = 0;
        boolean going = true;
        while (going) {
            going = false;
            int greatest = value(2);
            for (int node = 0; node < now.capacity.length && !going; node++) {
                if (load(node) == greatest) {
                    try {
                        doRelieve(node);
                        going = true;
                        count++;
                    } catch (IllegalStateException e) {
                        going = false;
                    }
                }
            }
        }
        return count;
    }

    private interface Doing {
        int make();
    }

    private int undoable(Doing doing) {
        State before = now.copy();
        int answer = doing.make();
        State after = now;
        now = before;
        save();
        now = after;
        return answer;
    }

    int add(int first, int second) {
        return undoable(() -> doAdd(first, second));
    }

    int remove(int edge) {
        return undoable(() -> doRemove(edge));
    }

    int turn(int edge) {
        return undoable(() -> doTurn(edge));
    }

    int relieve(int node) {
        return undoable(() -> doRelieve(node));
    }

    int balance() {
        return undoable(this::doBalance);
    }

    private int doSet(int node, int capacity) {
        needNode(node);
        if (capacity < 0 || capacity > 40) {
            throw new IllegalArgumentException();
        }
        int before = now.capacity[node];
        now.capacity[node] = capacity;
        return before;
    }

    int setCapacity(int node, int capacity) {
        return undoable(() -> doSet(node, capacity));
    }

    int node(int node, int what) {
        needNode(node);
        if (what == 0) {
            return load(node);
        } else if (what == 1) {
            return (int) now.edges.stream().filter(e -> e.ends[0] == node || e.ends[1] == node).count();
        } else if (what == 2) {
            return now.capacity[node];
        } else if (what == 3) {
            return (int) now.edges.stream().filter(e -> e.ends[0] == node || e.ends[1] == node)
                .map(e -> e.ends[0] + e.ends[1] - node).distinct().count();
        } else if (what == 4) {
            return order(node).stream().mapToInt(n -> 1 << n).sum();
        }
        throw new IllegalArgumentException();
    }

    int edge(int number, int what) {
        Edge edge = need(number);
        int[] values = {edge.ends[0], edge.ends[1], edge.holder(), edge.turns};
        if (what < 0 || what > 3) {
            throw new IllegalArgumentException();
        }
        return values[what];
    }

    int edgeAt(int index) {
        if (index < 0 || index >= now.edges.size()) {
            throw new IndexOutOfBoundsException();
        }
        return now.edges.get(index).number;
    }

    int value(int what) {
        if (what < 0 || what > 7) {
            throw new IllegalArgumentException();
        }
        int greatest = 0;
        int least = 99;
        int squares = 0;
        int over = 0;
        for (int node = 0; node < now.capacity.length; node++) {
            int load = load(node);
            greatest = Math.max(greatest, load);
            least = Math.min(least, load);
            squares += load * load;
            over += load > now.capacity[node] ? 1 : 0;
        }
        return new int[] {now.capacity.length, now.edges.size(), greatest, least, squares, now.turned, now.next,
            over}[what];
    }

    int path(int from, int to) {
        needNode(from);
        needNode(to);
        List<Edge> way = ways(from, new ArrayList<>()).get(to);
        return way == null ? -1 : way.size();
    }

    int step(int from, int to, int place) {
        if (place < 0 || place >= path(from, to)) {
            throw new IndexOutOfBoundsException();
        }
        return ways(from, new ArrayList<>()).get(to).get(place).number;
    }

    private int innerOf(List<Edge> edges, int part) {
        int count = 0;
        for (Edge edge : edges) {
            if ((part >> edge.ends[0] & 1) == 1 && (part >> edge.ends[1] & 1) == 1) {
                count++;
            }
        }
        return count;
    }

    private int parts() {
        return 1 << now.capacity.length;
    }

    int inner(int part) {
        if (part < 1 || part >= parts()) {
            throw new IllegalArgumentException();
        }
        return innerOf(now.edges, part);
    }

    /** The densities as whole numbers: 27720 is a multiple of 1 to 12. */
    private int densityOf(List<Edge> edges, int part) {
        return innerOf(edges, part) * (27720 / Integer.bitCount(part));
    }

    int densest() {
        int best = 1;
        for (int part = 2; part < parts(); part++) {
            int difference = densityOf(now.edges, part) - densityOf(now.edges, best);
            if (difference > 0 || difference == 0 && Integer.bitCount(part) > Integer.bitCount(best)) {
                best = part;
            }
        }
        return best;
    }

    private int leastOf(List<Edge> edges) {
        int most = 0;
        for (int part = 1; part < parts(); part++) {
            int load = 0;
            while (innerOf(edges, part) > load * Integer.bitCount(part)) {
                load++;
            }
            most = Math.max(most, load);
        }
        return most;
    }

    int least() {
        return leastOf(now.edges);
    }

    int tooDense() {
        int best = -1;
        int most = 0;
        for (int part = 1; part < parts(); part++) {
            int room = 0;
            for (int node = 0; node < now.capacity.length; node++) {
                room += (part >> node & 1) * now.capacity[node];
            }
            int over = innerOf(now.edges, part) - room;
            if (over > most) {
                most = over;
                best = part;
            }
        }
        return best;
    }

    int leastWith(int first, int second) {
        mayAdd(first, second);
        List<Edge> edges = new ArrayList<>(now.edges);
        edges.add(new Edge(-1, first, second));
        return leastOf(edges);
    }

    private int leastLess(Edge edge) {
        List<Edge> edges = new ArrayList<>(now.edges);
        edges.remove(edge);
        return leastOf(edges);
    }

    int leastWithout(int number) {
        return leastLess(need(number));
    }

    int critical() {
        int least = least();
        for (Edge edge : now.edges) {
            if (leastLess(edge) < least) {
                return edge.number;
            }
        }
        return -1;
    }

    int turnsToBalance() {
        State before = now.copy();
        doBalance();
        int turns = now.turned - before.turned;
        now = before;
        return turns;
    }

    int leastCapacity() {
        int[] before = now.capacity;
        for (int capacity = 0; ; capacity++) {
            now.capacity = new int[before.length];
            java.util.Arrays.fill(now.capacity, capacity);
            int found = tooDense();
            now.capacity = before;
            if (found == -1) {
                return capacity;
            }
        }
    }

    double density() {
        int part = densest();
        return (double) innerOf(now.edges, part) / (double) Integer.bitCount(part);
    }

    int append(int value) {
        if (value < 0 || value > 127) {
            throw new IllegalArgumentException();
        }
        if (text.length() == 100) {
            throw new IllegalStateException();
        }
        text += (char) value;
        return text.length();
    }

    int clearText() {
        int length = text.length();
        text = "";
        return length;
    }

    /** The text up to here could go on to a text that is well, but for the ranges of its numbers. */
    private boolean canStand(int length) {
        Matcher matcher = TEXT.matcher(text.substring(0, length));
        return matcher.matches() || matcher.hitEnd();
    }

    private int syntaxError() {
        Matcher capacity = CAPACITY.matcher(text);
        int from = 0;
        int outOfRange = Integer.MAX_VALUE;
        while (from <= text.length() && outOfRange == Integer.MAX_VALUE) {
            capacity.region(from, text.length());
            if (!capacity.lookingAt()) {
                break;
            }
            if (Integer.parseInt(capacity.group(1)) > 40) {
                outOfRange = capacity.start(1);
            }
            from = capacity.end() + 1;
            if (from <= text.length() && text.charAt(from - 1) != ';') {
                break;
            }
        }
        int wrong = 0;
        while (wrong < text.length() && canStand(wrong + 1)) {
            wrong++;
        }
        if (wrong == text.length() && TEXT.matcher(text).matches()) {
            wrong = Integer.MAX_VALUE;
        }
        return Math.min(wrong, outOfRange);
    }

    int carryOut() {
        int wrong = syntaxError();
        if (wrong != Integer.MAX_VALUE) {
            return -10 - wrong;
        }
        save();
        int done = 0;
        for (String order : text.split(";")) {
            try {
                if (!order.isEmpty()) {
                    obey(order);
                    done++;
                }
            } catch (RuntimeException e) {
                return done;
            }
        }
        return done;
    }

    private void obey(String order) {
        char kind = order.charAt(0);
        if (kind == '+') {
            doAdd(order.charAt(1) - 'a', order.charAt(2) - 'a');
        } else if (kind == '-') {
            doRemove(Integer.parseInt(order.substring(1)));
        } else if (kind == 't') {
            doTurn(Integer.parseInt(order.substring(1)));
        } else if (kind == 'r') {
            doRelieve(order.charAt(1) - 'a');
        } else if (kind == 'b') {
            doBalance();
        } else {
            doSet(order.charAt(1) - 'a', Integer.parseInt(order.substring(3)));
        }
    }

    int undo() {
        if (saved.isEmpty()) {
            throw new IllegalStateException();
        }
        now = saved.remove(saved.size() - 1);
        return saved.size();
    }

    long digest() {
        List<Integer> all = new ArrayList<>();
        all.add(text.length());
        for (int what = 0; what <= 7; what++) {
            all.add(value(what));
        }
        for (int node = 0; node < now.capacity.length; node++) {
            for (int what = 0; what <= 4; what++) {
                all.add(node(node, what));
            }
        }
        for (Edge edge : now.edges) {
            all.addAll(List.of(edge.number, edge.ends[0], edge.ends[1], edge.holder(), edge.turns));
        }
        all.addAll(List.of(densest(), least(), tooDense(), saved.size()));
        long h = 3779;
        for (int v : all) {
            h = 31 * h + v;
        }
        return h;
    }
}
