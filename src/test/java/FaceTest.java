import java.lang.reflect.Constructor;
import java.lang.reflect.Field;
import java.lang.reflect.Method;
import java.lang.reflect.Modifier;
import java.nio.file.Files;
import java.nio.file.Path;
import java.util.Arrays;
import java.util.Set;
import java.util.TreeSet;
import java.util.regex.Matcher;
import java.util.regex.Pattern;

/** The public face of the document, and the rules of LANGUAGE.md that the source itself shows. */
public final class FaceTest {
    private static final Check CHECK = new Check();
    private static final String[] CALLS = {"feed 1", "port 0", "fault 0", "told 1", "limb 2", "contract 2", "rate 2",
        "season 1", "gout 2", "stub 1", "dies 1", "copy 1", "drift 1", "undo 0", "firstNought 0", "means 2", "basket 1",
        "ring 1", "mended 0", "heirs 1", "reach 2", "bestCopy 2", "nearest 1", "odds 3", "got 2", "used 0", "bale 0",
        "write 2", "tear 0", "judge 0", "seed 1", "keep 1", "goBack 1"};

    public static void main(String[] args) throws Exception {
        constants();
        calls();
        classesInside();
        source(Files.readString(Path.of(System.getProperty("limb.source", "src/main/java/LimbMeasures.java"))));
        CHECK.end("FaceTest");
    }

    private static void holds(String rule, boolean isSo) {
        CHECK.due(rule, isSo ? 1 : 0, 1);
    }

    private static void constants() {
        CHECK.due("NONE", LimbMeasures.NONE, -1);
        CHECK.due("UNKNOWN", LimbMeasures.UNKNOWN, -1000000001);
        CHECK.due("OUTSIDE", LimbMeasures.OUTSIDE, -1000000002);
        CHECK.due("NOT", LimbMeasures.NOT, -1000000003);
        CHECK.due("FULL", LimbMeasures.FULL, -1000000004);
        for (Field field : LimbMeasures.class.getDeclaredFields()) {
            boolean isOfTheFace = Set.of("NONE", "UNKNOWN", "OUTSIDE", "NOT", "FULL").contains(field.getName());
            int seen = field.getModifiers();
            holds("field " + field.getName(), isOfTheFace
                    ? Modifier.isPublic(seen) && Modifier.isStatic(seen) && Modifier.isFinal(seen)
                    : Modifier.isPrivate(seen));
            holds("static final " + field.getName(), !Modifier.isStatic(seen) || Modifier.isFinal(seen));
        }
    }

    private static void calls() {
        Set<String> wanted = new TreeSet<>(Arrays.asList(CALLS));
        Set<String> found = new TreeSet<>();
        for (Method method : LimbMeasures.class.getDeclaredMethods()) {
            if (Modifier.isPrivate(method.getModifiers())) {
                holds("private " + method.getName(), isNoNameOfTheFace(method));
                continue;
            }
            boolean isPlain = method.getModifiers() == Modifier.PUBLIC && method.getReturnType() == int.class;
            holds("public int " + method.getName(), isPlain);
            holds("int parameters of " + method.getName(),
                    Arrays.stream(method.getParameterTypes()).allMatch(type -> type == int.class));
            found.add(method.getName() + " " + method.getParameterCount());
        }
        holds("the calls are those of the document: " + found, found.equals(wanted));
        Constructor<?>[] made = LimbMeasures.class.getDeclaredConstructors();
        holds("one public constructor", made.length == 1 && made[0].getModifiers() == Modifier.PUBLIC
                && made[0].getParameterCount() == 0);
        holds("public final class", LimbMeasures.class.getModifiers() == (Modifier.PUBLIC | Modifier.FINAL));
    }

    private static boolean isNoNameOfTheFace(Method method) {
        return Arrays.stream(CALLS).noneMatch(call -> call.startsWith(method.getName() + " "));
    }

    private static void classesInside() {
        Class<?>[] inside = LimbMeasures.class.getDeclaredClasses();
        holds("at most twelve classes", inside.length + 1 <= 12);
        for (Class<?> one : inside) {
            int seen = one.getModifiers();
            holds(one + " is static and not public", Modifier.isStatic(seen) && !Modifier.isPublic(seen));
            long fields = Arrays.stream(one.getDeclaredFields()).filter(f -> !Modifier.isStatic(f.getModifiers())).count();
            holds(one + " has at most twenty fields", fields <= 20);
            for (Field field : one.getDeclaredFields()) {
                int of = field.getModifiers();
                holds(one + "." + field.getName() + " is no static state", !Modifier.isStatic(of) || Modifier.isFinal(of));
            }
            for (Method method : one.getDeclaredMethods()) {
                holds(one + "." + method.getName(), isNoNameOfTheFace(method));
                holds(one + "." + method.getName() + " has at most seven parameters", method.getParameterCount() <= 7);
            }
        }
    }

    private static void source(String source) {
        holds("signs 1 to 127", source.chars().allMatch(sign -> sign > 0 && sign < 128));
        String code = source.replaceAll("(?s)/\\*.*?\\*/", "").replaceAll("//[^\n]*", "");
        String[] never = {"throw", "throws", "try", "catch", "synchronized", "assert", "import", "package", "Object",
            "System\\.out", "System\\.nanoTime", "Random", "Thread", "\\w*Exact", "equals", "hashCode", "toString",
            "getClass", "volatile", "transient", "native", "yield", "var", "goto"};
        for (String word : never) {
            Matcher matcher = Pattern.compile("\\b" + word + "\\b").matcher(code);
            holds("no " + word, !matcher.find());
        }
        holds("no lambda, no method reference", !code.contains("->") && !code.contains("::"));
        holds("no array of three dimensions", !code.contains("[][][]"));
        for (String method : code.split("\n\n")) {
            holds("a method of at most sixty lines: " + method.strip().split("\n")[0],
                    method.strip().split("\n").length <= 60);
        }
    }
}
