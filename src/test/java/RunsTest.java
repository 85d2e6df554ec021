import java.util.Random;

/** Long runs of calls, the same each time, on the class and on the model: all answers are the same. */
public final class RunsTest {
    private interface Answer {
        Object get();
    }

    private static final Check check = new Check();

    // Behind its 512th call an object may answer as it likes: a step of a run makes at most 62 calls, its end 11.
    private static final int MOST_CALLS = 512;
    private static final int MOST_CALLS_BEFORE_A_STEP = MOST_CALLS - 11 - 62;

    private final Random random;
    private final EdgeHolders x = new EdgeHolders();
    private final Model m = new Model();
    private final int run;
    private final int kind;
    private int nodes = 6;
    private int calls;
    private String last = "";

    private RunsTest(int run) {
        this.run = run;
        this.kind = run % 4;
        this.random = new Random(run);
    }

    public static void main(String[] args) {
        for (int run = 0; run < 360; run++) {
            new RunsTest(run).make();
        }
        check.end();
    }

    private void make() {
        if (kind > 0) {
            int some = kind == 3 && run % 8 != 3 ? 7 + random.nextInt(2) : 2 + random.nextInt(kind == 3 ? 11 : 5);
            same("begin", () -> x.begin(some), () -> m.begin(some));
        }
        while (calls <= MOST_CALLS_BEFORE_A_STEP) {
            nodes = m.value(0);
            if (random.nextInt(100) < (nodes > 8 ? 90 : 70)) {
                change();
            } else {
                ask();
            }
        }
        same("digest", x::digest, m::digest);
        for (int left = 0; left < 5; left++) {
            same("undo", x::undo, m::undo);
            same("digest", x::digest, m::digest);
        }
        check.that("run " + run + " makes at most 512 calls, not " + calls, calls <= MOST_CALLS);
    }

    private int anyNode() {
        return random.nextInt(12) == 0 ? random.nextInt(16) - 2 : random.nextInt(nodes);
    }

    private int anyEdge() {
        int edges = m.value(1);
        if (edges == 0 || random.nextInt(12) == 0) {
            return random.nextInt(m.value(6) + 3) - 1;
        }
        return m.edgeAt(random.nextInt(edges));
    }

    private void change() {
        int a = anyNode();
        int b = random.nextBoolean() ? anyNode() : Math.min(anyNode(), 2);
        int e = anyEdge();
        int capacity = random.nextInt(10) == 0 ? random.nextInt(50) - 5 : random.nextInt(5);
        switch (random.nextInt(kind == 2 ? 10 : 13)) {
            case 0, 1, 2, 3:
                same("add " + a + " " + b, () -> x.add(a, b), () -> m.add(a, b));
                break;
            case 4:
                if (random.nextInt(2) == 0) {
                    same("remove " + e, () -> x.remove(e), () -> m.remove(e));
                }
                break;
            case 5, 6:
                same("turn " + e, () -> x.turn(e), () -> m.turn(e));
                break;
            case 7:
                same("relieve " + a, () -> x.relieve(a), () -> m.relieve(a));
                break;
            case 8:
                if (random.nextInt(4) == 0) {
                    same("balance", x::balance, m::balance);
                }
                break;
            case 9:
                same("setCapacity", () -> x.setCapacity(a, capacity), () -> m.setCapacity(a, capacity));
                break;
            case 10:
                carryOutText();
                break;
            case 11:
                same("undo", x::undo, m::undo);
                break;
            default:
                if (random.nextInt(30) == 0) {
                    int some = random.nextInt(9);
                    same("begin " + some, () -> x.begin(some), () -> m.begin(some));
                }
                break;
        }
    }

    private void carryOutText() {
        if (random.nextInt(4) == 0) {
            same("clearText", x::clearText, m::clearText);
        }
        StringBuilder text = new StringBuilder();
        int orders = random.nextInt(8);
        for (int order = 0; order < orders; order++) {
            text.append(anyOrder());
        }
        if (random.nextInt(3) == 0 && text.length() > 0) {
            int at = random.nextInt(text.length());
            String bytes = "+-trbc=;0149alm \u0000\u007f";
            char some = bytes.charAt(random.nextInt(bytes.length()));
            if (random.nextBoolean()) {
                text.setCharAt(at, some);
            } else {
                text.insert(at, some);
            }
        }
        for (int at = 0; at < text.length(); at++) {
            char value = text.charAt(at);
            same("append", () -> x.append(value), () -> m.append(value));
        }
        last = text.toString();
        same("carryOut '" + last + "'", x::carryOut, m::carryOut);
        if (random.nextInt(2) == 0) {
            same("clearText", x::clearText, m::clearText);
        }
    }

    private String anyOrder() {
        char a = (char) ('a' + (random.nextInt(20) == 0 ? random.nextInt(12) : random.nextInt(nodes)));
        char b = (char) ('a' + random.nextInt(nodes));
        int e = Math.max(0, anyEdge());
        String number = random.nextInt(3) == 0 && e < 100 ? "0" + e : "" + e;
        switch (random.nextInt(8)) {
            case 0, 1:
                return "+" + a + (a == b && random.nextInt(4) > 0 ? (char) ('a' + (a - 'a' + 1) % nodes) : b) + ";";
            case 2:
                return "-" + number + ";";
            case 3, 4:
                return "t" + number + ";";
            case 5:
                return "r" + a + ";";
            case 6:
                return "b;";
            default:
                int capacity = random.nextInt(6) == 0 ? random.nextInt(45) : random.nextInt(5);
                return "c" + a + "=" + (random.nextInt(4) == 0 && capacity < 10 ? "0" : "") + capacity + ";";
        }
    }

    private void ask() {
        int a = anyNode();
        int b = anyNode();
        int e = anyEdge();
        int n = random.nextInt(10) - 1;
        int part = random.nextInt(10) == 0 ? random.nextInt(8192) - 100 : random.nextInt(1 << nodes);
        switch (random.nextInt(nodes > 8 ? 15 : 17)) {
            case 0 -> same("node " + a + " " + n % 6, () -> x.node(a, n % 6), () -> m.node(a, n % 6));
            case 1 -> same("edge " + e + " " + n % 5, () -> x.edge(e, n % 5), () -> m.edge(e, n % 5));
            case 2 -> same("edgeAt " + n, () -> x.edgeAt(n), () -> m.edgeAt(n));
            case 3 -> same("value " + n, () -> x.value(n), () -> m.value(n));
            case 4 -> same("path " + a + " " + b, () -> x.path(a, b), () -> m.path(a, b));
            case 5 -> same("step " + a + " " + b + " " + n % 4, () -> x.step(a, b, n % 4), () -> m.step(a, b, n % 4));
            case 6 -> same("inner " + part, () -> x.inner(part), () -> m.inner(part));
            case 7 -> same("densest", x::densest, m::densest);
            case 8 -> same("least", x::least, m::least);
            case 9 -> same("tooDense", x::tooDense, m::tooDense);
            case 10 -> same("leastWith " + a + " " + b, () -> x.leastWith(a, b), () -> m.leastWith(a, b));
            case 11 -> same("leastWithout " + e, () -> x.leastWithout(e), () -> m.leastWithout(e));
            case 12 -> same("turnsToBalance", x::turnsToBalance, m::turnsToBalance);
            case 13 -> same("leastCapacity", x::leastCapacity, m::leastCapacity);
            case 14 -> same("density", x::density, m::density);
            case 15 -> same("critical", x::critical, m::critical);
            default -> same("digest", x::digest, m::digest);
        }
    }

    private static String told(Answer answer) {
        try {
            return String.valueOf(answer.get());
        } catch (RuntimeException e) {
            return e.getClass().getName();
        }
    }

    private void same(String what, Answer got, Answer want) {
        calls++;
        String due = told(want);
        String answered = told(got);
        check.that("run " + run + ": " + what + " (" + answered + ", due is " + due + ")", due.equals(answered));
    }
}
