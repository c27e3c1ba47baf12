import java.io.IOException;
import java.lang.reflect.InvocationTargetException;
import java.lang.reflect.Method;
import java.lang.reflect.Modifier;
import java.nio.file.Files;
import java.nio.file.Path;
import java.util.Set;
import java.util.TreeSet;
import java.util.regex.Matcher;
import java.util.regex.Pattern;
import java.util.stream.Stream;

/** README.md says how to use the class and how to run its tests: what it says holds. */
public final class ReadmeTest {
    private static final Checks CHECKS = new Checks("ReadmeTest");
    private static final Pattern CALL = Pattern.compile("hunt\\.(\\w+)\\((.*?)\\); +// (true|false|-?\\d+)\\b.*");

    public static void main(String[] args) throws IOException, IllegalAccessException, InvocationTargetException {
        String page = Files.readString(Path.of("README.md"));
        example(page);
        namesEveryCall(page);
        namesEveryTest(page);
        CHECKS.due("it names what runs them", page.contains("`.ci/run`"), true);
        CHECKS.end();
    }

    /** Each call of the example has its answer behind it. */
    private static void example(String page) throws IllegalAccessException, InvocationTargetException {
        HeelHounds hunt = new HeelHounds();
        String[] lines = page.split("```java\n")[1].split("```")[0].split("\n");
        CHECKS.due("the first line makes one", lines[0].equals("HeelHounds hunt = new HeelHounds();"), true);
        for (int i = 1; i < lines.length; i++) {
            Matcher call = CALL.matcher(lines[i]);
            boolean isCall = call.matches();
            CHECKS.due("a call and its answer: " + lines[i], isCall, true);
            if (isCall) {
                String got = answer(hunt, call.group(1), call.group(2));
                CHECKS.due(lines[i] + " answered " + got, got.equals(call.group(3)), true);
            }
        }
    }

    private static String answer(HeelHounds hunt, String name, String given)
            throws IllegalAccessException, InvocationTargetException {
        Object[] numbers = given.isEmpty() ? new Object[0]
            : Stream.of(given.split(", ")).map(Integer::decode).toArray();
        for (Method method : HeelHounds.class.getDeclaredMethods()) {
            if (Modifier.isPublic(method.getModifiers()) && method.getName().equals(name)) {
                return String.valueOf(method.invoke(hunt, numbers));
            }
        }
        return "no such call";
    }

    private static void namesEveryCall(String page) {
        for (Method method : HeelHounds.class.getDeclaredMethods()) {
            if (Modifier.isPublic(method.getModifiers())) {
                CHECKS.due("it names " + method.getName(), page.contains("`" + method.getName() + "`"), true);
            }
        }
    }

    private static void namesEveryTest(String page) throws IOException {
        Set<String> told = new TreeSet<>();
        Matcher rows = Pattern.compile("(?m)^\\| (\\w+Test) \\|").matcher(page);
        while (rows.find()) {
            told.add(rows.group(1));
        }
        Set<String> there = new TreeSet<>();
        try (Stream<Path> files = Files.list(Path.of("src/test/java"))) {
            files.map(file -> file.getFileName().toString()).filter(name -> name.endsWith("Test.java"))
                .forEach(name -> there.add(name.replace(".java", "")));
        }
        CHECKS.due("tests that it names " + told + " are those there are " + there, told.equals(there), true);
    }
}
