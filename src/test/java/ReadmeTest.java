import java.io.IOException;
import java.lang.reflect.InvocationTargetException;
import java.lang.reflect.Method;
import java.nio.file.Files;
import java.nio.file.Path;
import java.util.ArrayList;
import java.util.Arrays;
import java.util.List;
import java.util.Set;
import java.util.TreeSet;
import java.util.regex.Matcher;
import java.util.regex.Pattern;
import java.util.stream.Stream;

/** What README.md says of the class: its example, its tables of calls and of texts, and its list of the tests. */
public final class ReadmeTest {
    private static final Check check = new Check();
    private static final List<String> UNDOABLE =
        List.of("begin", "add", "remove", "turn", "relieve", "balance", "setCapacity", "carryOut");

    public static void main(String[] args) throws IOException {
        List<String> lines = Files.readAllLines(Path.of("README.md"));
        example(lines);
        calls(lines);
        undoable(String.join(" ", lines));
        texts(lines);
        tests(lines);
        check.end();
    }

    /** A line of the example is a call of x, and behind // its answer, up to a colon. */
    private static void example(List<String> lines) {
        Pattern line = Pattern.compile("x\\.(\\w+)\\((.*)\\); +// ([^:]+)(?:: .*)?");
        EdgeHolders x = new EdgeHolders();
        int found = 0;
        for (String each : lines) {
            Matcher matcher = line.matcher(each);
            if (matcher.matches()) {
                found++;
                check.dueText(each, matcher.group(3), answer(x, matcher.group(1), matcher.group(2)));
            }
        }
        check.that("the example was found", found > 15);
    }

    private static String answer(EdgeHolders x, String name, String arguments) {
        List<Object> values = new ArrayList<>();
        for (String argument : arguments.split(", ")) {
            if (argument.startsWith("'")) {
                values.add((int) argument.charAt(1));
            } else if (!argument.isEmpty()) {
                values.add(Integer.parseInt(argument));
            }
        }
        try {
            return String.valueOf(call(name).invoke(x, values.toArray()));
        } catch (InvocationTargetException e) {
            return "throws " + e.getCause().getClass().getSimpleName();
        } catch (IllegalAccessException e) {
            return "no access";
        }
    }

    private static Method call(String name) {
        for (Method method : face()) {
            if (method.getName().equals(name)) {
                return method;
            }
        }
        throw new IllegalStateException("there is no call " + name);
    }

    private static List<Method> face() {
        return Arrays.stream(EdgeHolders.class.getDeclaredMethods())
            .filter(method -> java.lang.reflect.Modifier.isPublic(method.getModifiers())).toList();
    }

    /** Each call has one row, with as many arguments as it has, and with its exceptions in their order. */
    private static void calls(List<String> lines) {
        Pattern row = Pattern.compile("\\| `(\\w+)\\((.*?)\\)` \\| .+ \\| .+ \\| (.+) \\|");
        Pattern exception = Pattern.compile("\\w+Exception");
        List<String> found = new ArrayList<>();
        for (String line : lines) {
            Matcher matcher = row.matcher(line);
            if (matcher.matches()) {
                String name = matcher.group(1);
                found.add(name);
                int arguments = matcher.group(2).isEmpty() ? 0 : matcher.group(2).split(", ").length;
                check.due("arguments of " + name, call(name).getParameterCount(), arguments);
                StringBuilder due = new StringBuilder();
                for (Class<?> thrown : call(name).getExceptionTypes()) {
                    due.append(thrown.getSimpleName()).append(' ');
                }
                StringBuilder told = new StringBuilder();
                exception.matcher(matcher.group(3)).results().forEach(m -> told.append(m.group()).append(' '));
                check.dueText("exceptions of " + name, due.toString(), told.toString());
                check.that(name + " throws something or nothing", due.length() > 0 ^ matcher.group(3).equals("nothing"));
            }
        }
        List<String> due = Arrays.stream(FormTest.ORDER).filter(name -> !name.startsWith("----")).toList();
        check.dueText("the calls in their order", due.toString(), found.toString());
    }

    private static void undoable(String all) {
        Matcher matcher = Pattern.compile("### What undo\\(\\) takes back +The last call of (.*?) that threw").matcher(all);
        check.that("what undo takes back was found", matcher.find());
        List<String> told = Pattern.compile("`(\\w+)`").matcher(matcher.group(1)).results().map(m -> m.group(1)).toList();
        check.dueText("the undoable calls", UNDOABLE.toString(), told.toString());
    }

    /** On a new object each text has the answer that stands beside it. */
    private static void texts(List<String> lines) {
        Pattern row = Pattern.compile("\\| (?:`(.*)`|\\(none\\)) \\| (-?\\d+) \\| .+ \\|");
        int found = 0;
        for (String line : lines) {
            Matcher matcher = row.matcher(line);
            if (matcher.matches()) {
                found++;
                String text = matcher.group(1) == null ? "" : matcher.group(1);
                check.due("'" + text + "'", Integer.parseInt(matcher.group(2)), Check.carryOut(new EdgeHolders(), text));
            }
        }
        check.due("texts", 10, found);
    }

    private static void tests(List<String> lines) throws IOException {
        Set<String> told = new TreeSet<>();
        for (String line : lines) {
            if (line.startsWith("| `")) {
                Pattern.compile("`(\\w+Test)`").matcher(line).results().forEach(m -> told.add(m.group(1)));
            }
        }
        Set<String> due = new TreeSet<>();
        try (Stream<Path> files = Files.list(Path.of("src/test/java"))) {
            files.map(file -> file.getFileName().toString()).filter(name -> name.endsWith("Test.java"))
                .forEach(name -> due.add(name.substring(0, name.length() - ".java".length())));
        }
        check.dueText("the tests", due.toString(), told.toString());
    }
}
