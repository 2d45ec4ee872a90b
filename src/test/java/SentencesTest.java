import java.io.IOException;
import java.lang.reflect.Method;
import java.nio.file.Files;
import java.nio.file.Path;
import java.util.ArrayList;
import java.util.Arrays;
import java.util.HashMap;
import java.util.List;
import java.util.Map;
import java.util.Set;
import java.util.TreeSet;
import java.util.regex.Matcher;
import java.util.regex.Pattern;

/**
 * Each sentence of the document that names a boundary case, with a run of calls of its own: src/test/sentences has them
 * (README.md tells their form). Holds the quoted words against the document too, and fails where a boundary that the
 * document names is in no quotation.
 */
public final class SentencesTest {
    private static final Check CHECK = new Check();
    private static final Map<String, Integer> NAMES = Map.of("NONE", Check.NONE, "UNKNOWN", Check.UNKNOWN,
            "OUTSIDE", Check.OUTSIDE, "NOT", Check.NOT, "FULL", Check.FULL,
            "LEAST", Integer.MIN_VALUE, "MOST", Integer.MAX_VALUE);
    private static final Set<String> ASKING = Set.of("fault", "told", "limb", "contract", "rate", "firstNought", "means",
            "basket", "ring", "mended", "heirs", "reach", "bestCopy", "nearest", "odds", "used", "bale", "judge");
    private static final Pattern CALL = Pattern.compile("(?:(\\d+) \\* )?(\\w+)((?: [-\\w]+)*)(?: = (-?\\w+))?");
    private static final Pattern TELL = Pattern.compile("(tell|feed)((?: (?:\\d+\\*)?(?:\"[^\"]*\"|[A-Z]+))+)"
            + "(?: = (-?\\d+)(?: at (\\d+))?)?");
    private static final Pattern PIECE = Pattern.compile(" (?:(\\d+)\\*)?(?:\"([^\"]*)\"|([A-Z]+))");
    private static final Pattern BOUNDARY = Pattern.compile("\\b(?:UNKNOWN|OUTSIDE|NOT|FULL|NONE)\\b|\\d+ \\.\\. \\d+"
            + "|at most|at least|\\b[Nn]o LIMBS|\\bempty|\\bleft over|\\bnothing|\\bNothing|\\(cut\\)|cuts|\\bonce\\b"
            + "|\\bagain\\b|\\btwice\\b|\\bunlike\\b|\\blike ones\\b|\\bfewer than|\\bthe oldest\\b");

    private final Map<String, Method> calls = new HashMap<>();
    private final Map<String, String> texts = new HashMap<>();
    private final Document document;
    private LimbMeasures x = new LimbMeasures();
    private String section = "";
    private String sentence = "";
    private int answersOfSentence;
    private int sentences;

    private SentencesTest(Document document) {
        this.document = document;
        for (Method method : LimbMeasures.class.getDeclaredMethods()) {
            calls.put(method.getName(), method);
        }
    }

    public static void main(String[] args) throws Exception {
        Document document = new Document(Path.of(System.getProperty("limb.doc", "../shared/DOC.md")));
        int sentences = 0;
        try (var files = Files.list(Path.of(System.getProperty("limb.sentences", "src/test/sentences")))) {
            for (Path file : new TreeSet<>(files.toList())) {
                SentencesTest test = new SentencesTest(document);
                test.readFile(file);
                sentences += test.sentences;
            }
        }
        CHECK.due("there are sentences", sentences > 0 ? 1 : 0, 1);
        document.holdCoverage();
        System.out.println(sentences + " sentences");
        CHECK.end("SentencesTest");
    }

    private void readFile(Path file) throws Exception {
        int number = 0;
        for (String line : Files.readAllLines(file)) {
            number++;
            String where = file.getFileName() + ":" + number + ", " + section + ", '" + sentence + "': ";
            if (line.startsWith("== ")) {
                endSentence();
                section = line.substring(3);
                CHECK.due(where + "section " + section, document.hasSection(section) ? 1 : 0, 1);
            } else if (line.startsWith("> ")) {
                endSentence();
                sentence = line.substring(2);
                sentences++;
                x = new LimbMeasures();
                CHECK.due(where + "words that are not there: " + sentence, document.quote(section, sentence) ? 1 : 0, 1);
            } else if (!line.isBlank() && !line.startsWith("#")) {
                step(where, line);
            }
        }
        endSentence();
    }

    private void endSentence() {
        if (!sentence.isEmpty()) {
            CHECK.due("answers of '" + sentence + "'", answersOfSentence > 0 ? 1 : 0, 1);
        }
        sentence = "";
        answersOfSentence = 0;
    }

    private void step(String where, String line) throws Exception {
        Matcher tell = TELL.matcher(line);
        Matcher call = CALL.matcher(line);
        if (line.startsWith("let ")) {
            int blank = line.indexOf(' ', 4);
            texts.put(line.substring(4, blank), joined(line.substring(blank)));
        } else if (line.equals("new")) {
            x = new LimbMeasures();
        } else if (tell.matches()) {
            tell(where + line, tell);
        } else if (call.matches() && calls.containsKey(call.group(2))) {
            call(where + line, call);
        } else {
            CHECK.due(where + "a line that is no step: " + line, 0, 1);
        }
    }

    private String joined(String pieces) {
        StringBuilder text = new StringBuilder();
        Matcher piece = PIECE.matcher(pieces);
        while (piece.find()) {
            int times = piece.group(1) == null ? 1 : Integer.parseInt(piece.group(1));
            String one = piece.group(2) != null ? piece.group(2) : texts.get(piece.group(3));
            if (one == null) {
                CHECK.due("a text that was not told: " + piece.group(3), 0, 1);
                one = "";
            }
            text.append(one.repeat(times));
        }
        return text.toString();
    }

    /** feed: each letter is one more; tell: port() too, its answer and fault(). */
    private void tell(String where, Matcher tell) {
        String text = joined(tell.group(2));
        int had = x.told(3);
        for (int i = 0; i < text.length(); i++) {
            CHECK.due(where + " letter " + i, x.feed(text.charAt(i)), had + i + 1);
        }
        if (tell.group(1).equals("feed")) {
            answersOfSentence++;
            return;
        }
        int answer = x.port();
        if (tell.group(3) == null) {
            CHECK.due(where + " has a fault, at " + x.fault(), answer < 0 ? answer : 0, 0);
            return;
        }
        answersOfSentence++;
        CHECK.due(where, answer, Integer.parseInt(tell.group(3)));
        CHECK.due(where + " fault()", x.fault(), tell.group(4) == null ? Check.NONE : Integer.parseInt(tell.group(4)));
    }

    /** Of calls that are made several times the latest answer is the one that is due. */
    private void call(String where, Matcher call) throws Exception {
        int times = call.group(1) == null ? 1 : Integer.parseInt(call.group(1));
        Object[] numbers = Arrays.stream(call.group(3).split(" ")).filter(word -> !word.isEmpty())
                .map(SentencesTest::value).toArray();
        Method method = calls.get(call.group(2));
        if (method.getParameterCount() != numbers.length) {
            CHECK.due(where + ": how many numbers", numbers.length, method.getParameterCount());
            return;
        }
        String before = Check.view(x);
        int answer = 0;
        for (int i = 0; i < times; i++) {
            before = i == times - 1 ? Check.view(x) : before;
            answer = (Integer) method.invoke(x, numbers);
        }
        boolean isRefusal = answer <= Check.UNKNOWN && answer >= Check.FULL;
        if (call.group(4) == null) {
            CHECK.due(where + " is refused", isRefusal ? answer : 0, 0);
        } else {
            answersOfSentence++;
            CHECK.due(where, answer, value(call.group(4)));
        }
        if (isRefusal || ASKING.contains(call.group(2))) {
            CHECK.unchanged(where, before, x);
        }
    }

    private static int value(String word) {
        return NAMES.containsKey(word) ? NAMES.get(word) : Integer.parseInt(word);
    }

    /** The document in its sections, and what of them is quoted. */
    private static final class Document {
        private final List<String> sections = new ArrayList<>();
        private final List<boolean[]> quoted = new ArrayList<>();

        Document(Path file) throws IOException {
            String all = Files.readString(file).replace("```text", " ").replace("```", " ");
            for (String part : all.split("\n(?:## |======== |(?=Ahead of the calls))")) {
                String section = part.replaceAll("\\s+", " ").strip();
                sections.add(section);
                quoted.add(new boolean[section.length()]);
            }
        }

        boolean hasSection(String name) {
            return sections.stream().anyMatch(section -> section.startsWith(name));
        }

        /** Marks the words as quoted, wherever they stand in the section. */
        boolean quote(String name, String words) {
            boolean isFound = false;
            for (int i = 0; i < sections.size(); i++) {
                int place = sections.get(i).startsWith(name) ? sections.get(i).indexOf(words) : -1;
                while (place >= 0) {
                    isFound = true;
                    Arrays.fill(quoted.get(i), place, place + words.length(), true);
                    place = sections.get(i).indexOf(words, place + 1);
                }
            }
            return isFound;
        }

        void holdCoverage() {
            for (int i = 0; i < sections.size(); i++) {
                String section = sections.get(i);
                if (section.startsWith("Terms") || section.startsWith("Promise") || section.matches("(?s)[123] .*")) {
                    holdSection(section, quoted.get(i));
                }
            }
        }

        private static void holdSection(String section, boolean[] marks) {
            boolean isQuoted = false;
            for (boolean mark : marks) {
                isQuoted |= mark;
            }
            CHECK.due("a sentence of '" + section + "'", isQuoted ? 1 : 0, 1);
            Matcher boundary = BOUNDARY.matcher(section);
            while (boundary.find()) {
                String around = section.substring(Math.max(0, boundary.start() - 30),
                        Math.min(section.length(), boundary.end() + 30));
                CHECK.due("a boundary without a test: .. " + around + " ..", marks[boundary.start()] ? 1 : 0, 1);
            }
        }
    }
}
