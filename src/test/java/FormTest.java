import java.io.IOException;
import java.lang.reflect.Constructor;
import java.lang.reflect.Field;
import java.lang.reflect.Method;
import java.lang.reflect.Modifier;
import java.nio.file.Files;
import java.nio.file.Path;
import java.util.List;
import java.util.Set;
import java.util.TreeSet;
import java.util.regex.Matcher;
import java.util.regex.Pattern;

/** The public face of the document, and what of LANGUAGE.md can be seen from the class and from its lines. */
public final class FormTest {
    private static final Check check = new Check();

    private static final Set<String> FACE = new TreeSet<>(List.of(
        "int begin(int) ARGUMENT", "int add(int,int) INDEX ARGUMENT STATE", "int remove(int) ELEMENT",
        "int turn(int) ELEMENT", "int relieve(int) INDEX STATE", "int balance()", "int setCapacity(int,int) INDEX ARGUMENT",
        "int node(int,int) INDEX ARGUMENT", "int edge(int,int) ELEMENT ARGUMENT", "int edgeAt(int) INDEX",
        "int value(int) ARGUMENT", "int path(int,int) INDEX", "int step(int,int,int) INDEX", "int inner(int) ARGUMENT",
        "int densest()", "int least()", "int tooDense()", "int leastWith(int,int) INDEX ARGUMENT",
        "int leastWithout(int) ELEMENT", "int critical()", "int turnsToBalance()", "int leastCapacity()",
        "double density()", "int append(int) ARGUMENT STATE", "int clearText()", "int carryOut()", "int undo() STATE",
        "long digest()"));

    static final String[] ORDER = {
        "---- nodes and edges", "begin", "add", "remove", "turn", "relieve", "balance", "setCapacity",
        "---- values", "node", "edge", "edgeAt", "value",
        "---- paths and parts", "path", "step", "inner", "densest", "least", "tooDense",
        "---- what if", "leastWith", "leastWithout", "critical", "turnsToBalance", "leastCapacity", "density",
        "---- text", "append", "clearText", "carryOut",
        "---- state", "undo", "digest"};

    public static void main(String[] args) throws IOException {
        face();
        membersInside();
        List<String> lines = Files.readAllLines(Path.of("src/main/java/EdgeHolders.java"));
        lines(lines);
        order(lines);
        check.end();
    }

    private static void face() {
        Class<EdgeHolders> c = EdgeHolders.class;
        check.that("public and final", Modifier.isPublic(c.getModifiers()) && Modifier.isFinal(c.getModifiers()));
        Set<String> found = new TreeSet<>();
        Set<String> names = new TreeSet<>();
        for (Method method : c.getDeclaredMethods()) {
            if (!Modifier.isPrivate(method.getModifiers())) {
                found.add(described(method));
                names.add(method.getName());
                check.due("the modifiers of " + method.getName(), Modifier.PUBLIC, method.getModifiers());
            }
        }
        check.that("the methods " + found, FACE.equals(found));
        for (Class<?> any : allClasses()) {
            for (Method method : any.getDeclaredMethods()) {
                boolean isFace = any == c && !Modifier.isPrivate(method.getModifiers());
                check.that(method + " has a name of its own", isFace || !names.contains(method.getName()));
            }
        }
        Constructor<?>[] constructors = c.getDeclaredConstructors();
        check.that("one public constructor", constructors.length == 1 && Modifier.isPublic(constructors[0].getModifiers())
            && constructors[0].getParameterCount() == 0);
        for (Field field : c.getDeclaredFields()) {
            boolean isNone = field.getName().equals("NONE") && Modifier.isPublic(field.getModifiers());
            check.that(field + " is private, or NONE", isNone || Modifier.isPrivate(field.getModifiers()));
        }
    }

    /** The calls stand in the order of the document, and ahead of each group what the interface says there. */
    private static void order(List<String> lines) {
        Pattern group = Pattern.compile("// (---- .*)");
        Pattern call = Pattern.compile("public (?:int|long|double) (\\w+)\\(.*");
        StringBuilder found = new StringBuilder();
        for (String line : lines) {
            Matcher ahead = group.matcher(line.strip());
            Matcher begun = call.matcher(line.strip());
            if (ahead.matches()) {
                found.append(ahead.group(1)).append('\n');
            } else if (begun.matches()) {
                found.append(begun.group(1)).append('\n');
            }
        }
        check.dueText("the order of the calls", String.join("\n", ORDER) + "\n", found.toString());
    }

    private static String described(Method method) {
        StringBuilder told = new StringBuilder(method.getReturnType() + " " + method.getName() + "(");
        String between = "";
        for (Class<?> parameter : method.getParameterTypes()) {
            told.append(between).append(parameter);
            between = ",";
        }
        told.append(')');
        for (Class<?> thrown : method.getExceptionTypes()) {
            told.append(thrown == Check.ARGUMENT ? " ARGUMENT" : thrown == Check.STATE ? " STATE"
                : thrown == Check.INDEX ? " INDEX" : thrown == Check.ELEMENT ? " ELEMENT" : " " + thrown);
        }
        return told.toString();
    }

    private static List<Class<?>> allClasses() {
        java.util.ArrayList<Class<?>> all = new java.util.ArrayList<>(List.of(EdgeHolders.class.getDeclaredClasses()));
        all.add(EdgeHolders.class);
        return all;
    }

    private static void membersInside() {
        check.that("rule 11: at most twelve classes", allClasses().size() <= 12);
        for (Class<?> any : allClasses()) {
            int fields = 0;
            for (Field field : any.getDeclaredFields()) {
                boolean isStatic = Modifier.isStatic(field.getModifiers());
                check.that("rule 5: " + field, !isStatic || Modifier.isFinal(field.getModifiers()));
                fields += isStatic ? 0 : 1;
            }
            check.that("rule 11: at most twenty fields in " + any, fields <= 20);
            for (Method method : any.getDeclaredMethods()) {
                check.that("rule 11: parameters of " + method, method.getParameterCount() <= 7);
                check.that("rule 3: no lambda " + method, !method.isSynthetic());
            }
            if (any != EdgeHolders.class) {
                check.that("rule 1: static " + any, Modifier.isStatic(any.getModifiers()));
                check.that("rule 1: private " + any, Modifier.isPrivate(any.getModifiers()));
            }
        }
    }

    private static void lines(List<String> lines) {
        String[] forbidden = {
            "\\btry\\b", "\\bcatch\\b", "\\bfinally\\b", "\\bassert\\b", "\\bsynchronized\\b", "->", "::", "\\binstanceof\\b",
            "\\bthis\\b", "\\bpackage\\b", "\\bSystem\\b", "\\bString\\b", "\\bprotected\\b", "\\bequals\\b",
            "\\bhashCode\\b", "\\btoString\\b", "\\bExact\\b", "\\bvar\\b", "\\byield\\b", "\\bstatic \\{",
            "\\bArrays\\b", "\\bfloat\\b", "\\bwhile \\(true\\)"};
        Pattern making = Pattern.compile("\\bnew (\\w+)");
        Pattern thrown = Pattern.compile("throw new \\w+\\(\"[ -~]*\"\\);");
        Pattern field = Pattern.compile("^ {4,8}private final .* = new \\w+[\\[(]\\w*[\\])];$");
        Pattern inConstructor = Pattern.compile("(cells = new int\\[.*|states\\[index\\] = new Graph\\(\\));");
        for (int at = 0; at < lines.size(); at++) {
            String line = lines.get(at);
            String where = "line " + (at + 1) + ": " + line;
            boolean isComment = line.strip().startsWith("//") || line.strip().startsWith("*") || line.strip().startsWith("/*");
            for (String word : forbidden) {
                check.that(where + " has no " + word, isComment || !Pattern.compile(word).matcher(line).find());
            }
            Matcher made = making.matcher(line);
            if (!isComment && made.find()) {
                check.that("rule 12, a call makes no objects: " + where, thrown.matcher(line).find()
                    || field.matcher(line).find() || inConstructor.matcher(line).find());
            }
            check.that("rule 4, imports: " + where,
                !line.startsWith("import") || line.equals("import java.util.NoSuchElementException;"));
        }
        methodLengths(lines);
    }

    /** Rule 11: methods stay short. A method is a block that stands in a class and is none. */
    private static void methodLengths(List<String> lines) {
        java.util.ArrayDeque<Integer> starts = new java.util.ArrayDeque<>();
        java.util.ArrayDeque<Boolean> classes = new java.util.ArrayDeque<>();
        int methods = 0;
        for (int at = 0; at < lines.size(); at++) {
            String line = lines.get(at);
            boolean isComment = line.strip().startsWith("//") || line.strip().startsWith("*") || line.strip().startsWith("/*");
            for (int i = 0; i < line.length() && !isComment; i++) {
                if (line.charAt(i) == '{') {
                    starts.push(at);
                    classes.push(line.contains(" class "));
                } else if (line.charAt(i) == '}') {
                    int start = starts.pop();
                    boolean isMethod = !classes.pop() && !classes.isEmpty() && classes.peek();
                    methods += isMethod ? 1 : 0;
                    check.that("rule 11: the method to line " + (at + 1) + " is short", !isMethod || at - start < 60);
                }
            }
        }
        check.that("methods were found", methods > 60 && starts.isEmpty());
    }
}
