import java.io.File;
import java.io.IOException;
import java.lang.reflect.InvocationTargetException;
import java.lang.reflect.Method;
import java.lang.reflect.Modifier;
import java.nio.file.Files;
import java.nio.file.Path;
import java.util.ArrayList;
import java.util.List;
import java.util.Set;
import java.util.TreeSet;
import java.util.regex.Matcher;
import java.util.regex.Pattern;

/** What README.md says of the class and of the tests is so. It is run where README.md lies, as .ci/run does. */
public final class ReadmeTest {
    private static final Pattern CALL = Pattern.compile("x\\.(\\w+)\\((\\d*)\\); +// ([^:]+): .+");
    private static final Pattern TYPING = Pattern.compile("type\\(x, \"(\\S+)\\\\n\"\\); +// (\\d): .+");
    private static final Pattern QUOTED = Pattern.compile("`([^`]+)`");

    public static void main(String[] args) throws IOException {
        List<String> readme = Files.readAllLines(Path.of("README.md"));
        example(readme);
        calls(readme);
        texts(readme);
        statements(readme);
        tests(readme);
        Check.end("ReadmeTest");
    }

    private static void example(List<String> readme) {
        LineDisk x = new LineDisk();
        int from = readme.indexOf("LineDisk x = new LineDisk();");
        Check.holds("there is an example", from >= 0);
        for (int at = from + 1; !readme.get(at).equals("```"); at++) {
            String line = readme.get(at);
            Matcher call = CALL.matcher(line);
            Matcher typing = TYPING.matcher(line);
            if (call.matches()) {
                Check.holds(line, call.group(3).equals(answer(x, call.group(1), call.group(2))));
            } else {
                Check.holds(line + " is understood", typing.matches());
                Check.types(x, Integer.parseInt(typing.group(2)), typing.group(1));
            }
        }
    }

    private static String answer(LineDisk x, String name, String argument) {
        try {
            if (argument.isEmpty()) {
                return String.valueOf(LineDisk.class.getMethod(name).invoke(x));
            }
            Method method = LineDisk.class.getMethod(name, int.class);
            return String.valueOf(method.invoke(x, Integer.parseInt(argument)));
        } catch (NoSuchMethodException | IllegalAccessException | InvocationTargetException e) {
            return e.toString();
        }
    }

    private static void calls(List<String> readme) {
        Set<String> face = new TreeSet<>();
        for (Method method : LineDisk.class.getDeclaredMethods()) {
            if (Modifier.isPublic(method.getModifiers())) {
                face.add(method.getName());
            }
        }
        Set<String> told = new TreeSet<>();
        for (String call : firstColumn(readme, "call")) {
            told.add(call.substring(0, call.indexOf('(')));
        }
        Check.holds("the calls are told: " + told, told.equals(face));
    }

    private static void texts(List<String> readme) {
        List<String> texts = firstColumn(readme, "text");
        Check.same("texts", 8, texts.size());
        for (String text : texts) {
            LineDisk x = Check.formatted("20E", "S3");
            Check.types(x, 0, text);
        }
    }

    private static void statements(List<String> readme) {
        List<String> statements = firstColumn(readme, "statement");
        Check.same("statements", 7, statements.size());
        for (String statement : statements) {
            LineDisk x = Check.formatted("10W3,0,1");
            Check.same("making file 3", 6, x.step(1));
            Check.types(x, 0, "10" + statement);
            Check.typeAll(x, "C");
            Check.same("a step at " + statement, statement.equals("E") ? 0 : 6, x.step(1));
        }
    }

    private static void tests(List<String> readme) {
        Set<String> there = new TreeSet<>();
        for (File file : new File("src/test/java").listFiles()) {
            if (file.getName().endsWith("Test.java")) {
                there.add(file.getName().replace(".java", ""));
            }
        }
        Set<String> told = new TreeSet<>(firstColumn(readme, "test"));
        Check.holds("the tests are told: " + told, told.equals(there));
        Check.holds(".ci/run can be run", new File(".ci/run").canExecute() && readme.contains(".ci/run"));
    }

    /** What stands in quotes in the first column of the table that begins with this word. */
    private static List<String> firstColumn(List<String> readme, String head) {
        List<String> words = new ArrayList<>();
        boolean inside = false;
        for (String line : readme) {
            inside = line.startsWith("| " + head + " |") || inside && line.startsWith("|");
            if (inside) {
                Matcher quoted = QUOTED.matcher(line.substring(1, line.indexOf('|', 1)));
                while (quoted.find()) {
                    words.add(quoted.group(1));
                }
            }
        }
        return words;
    }
}
