import java.lang.reflect.Method;
import java.lang.reflect.Modifier;
import java.nio.file.Files;
import java.nio.file.Path;
import java.util.Arrays;
import java.util.TreeSet;
import java.util.regex.Matcher;
import java.util.regex.Pattern;

/** README.md keeps its word: its example answers what it says, and it names every call and every test. */
public final class ReadmeTest {
    private static final Check CHECK = new Check();
    private static final Pattern TEXT = Pattern.compile("String text = \"([^\"]*)\";");
    private static final Pattern STEP = Pattern.compile("(?m)^x\\.(\\w+)\\(([^)]*)\\); *// (-?\\d+):");

    public static void main(String[] args) throws Exception {
        Path file = Path.of(System.getProperty("limb.readme", "README.md"));
        String readme = Files.readString(file);
        example(readme.substring(readme.indexOf("```java"), readme.indexOf("```\n", readme.indexOf("```java"))));
        for (Method method : LimbMeasures.class.getDeclaredMethods()) {
            if (Modifier.isPublic(method.getModifiers())) {
                isNamed(readme, method.getName());
            }
        }
        try (var tests = Files.list(file.toAbsolutePath().getParent().resolve("src/test/java"))) {
            for (Path test : new TreeSet<>(tests.toList())) {
                String name = test.getFileName().toString().replace(".java", "");
                if (name.endsWith("Test")) {
                    isNamed(readme, name);
                }
            }
        }
        CHECK.end("ReadmeTest");
    }

    private static void isNamed(String readme, String name) {
        CHECK.due("README.md names " + name, readme.contains("`" + name + "`") ? 1 : 0, 1);
    }

    private static void example(String code) throws Exception {
        Matcher text = TEXT.matcher(code);
        CHECK.due("the example has a text", text.find() ? 1 : 0, 1);
        LimbMeasures x = new LimbMeasures();
        Check.feedAll(x, text.group(1));
        Matcher step = STEP.matcher(code);
        int steps = 0;
        while (step.find()) {
            steps++;
            Object[] numbers = Arrays.stream(step.group(2).split(", ")).filter(word -> !word.isEmpty())
                    .map(Integer::valueOf).toArray();
            Class<?>[] types = new Class<?>[numbers.length];
            Arrays.fill(types, int.class);
            Object answer = LimbMeasures.class.getMethod(step.group(1), types).invoke(x, numbers);
            CHECK.due("README.md: x." + step.group(1) + "(" + step.group(2) + ")", (Integer) answer,
                    Integer.parseInt(step.group(3)));
        }
        CHECK.due("every line x. of the example is a step", steps, code.lines().filter(l -> l.startsWith("x.")).count());
    }
}
