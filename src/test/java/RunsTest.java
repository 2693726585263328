import java.io.IOException;
import java.nio.file.Files;
import java.nio.file.Path;
import java.util.ArrayList;
import java.util.HashMap;
import java.util.LinkedHashMap;
import java.util.List;
import java.util.Map;
import java.util.regex.Matcher;
import java.util.regex.Pattern;
import java.util.stream.Stream;

/**
 * The document sentence by sentence, each with runs of calls of its own: those of src/test/runs/*.txt.
 * README.md tells how these are written. Each answer is asked of the program and of the oracle; each call that is to
 * throw must leave the program's state as it was; and each sentence of the document must be quoted somewhere.
 */
public final class RunsTest {
    private static final Path DOCUMENT = Path.of("../shared/DOC.md");
    private static final Path RUNS = Path.of("src/test/runs");
    private static final Pattern CALL = Pattern.compile("(?:(\\d+) x )?(\\w+)\\(([^)]*)\\)(?: (=|throws) (\\S+))?");
    private static final Map<String, String> THROWN = Map.of("index", "throws.IndexOutOfBoundsException",
        "argument", "throws.IllegalArgumentException", "state", "throws.IllegalStateException");

    private final Map<String, List<String>> document = new LinkedHashMap<>();
    private final Map<String, List<String>> quotes = new HashMap<>();
    private final Map<String, List<String>> recipes = new HashMap<>();
    private final List<int[]> history = new ArrayList<>();
    private ReadingChart program = new ReadingChart();
    private Oracle oracle = new Oracle();
    private String where = "";
    private int asked = 0;
    private int thrown = 0;
    private int wrong = 0;

    private void fail(String what) {
        wrong++;
        System.out.println(where + ": " + what);
    }

    // ---- the document

    private void readDocument() throws IOException {
        String section = "";
        boolean isCode = false;
        for (String line : Files.readAllLines(DOCUMENT)) {
            isCode ^= line.startsWith("```");
            if (line.startsWith("#")) {
                section = line.replaceFirst("#+ ", "");
                document.put(section, new ArrayList<>());
            } else if (!isCode && !line.startsWith("```") && !line.isBlank()) {
                for (String sentence : line.replaceFirst("^(- |\\d\\. )", "").split("(?<=[.;])\\s+")) {
                    document.get(section).add(sentence);
                }
            }
        }
    }

    private boolean isSaid(String section, String quote) {
        return String.join(" ", document.getOrDefault(section, List.of())).contains(quote);
    }

    private void everySentenceIsQuoted() {
        for (String section : document.keySet()) {
            for (String sentence : document.get(section)) {
                where = section;
                if (quotes.getOrDefault(section, List.of()).stream().noneMatch(q -> q.contains(sentence) || sentence.contains(q))) {
                    fail("no run for: " + sentence);
                }
            }
        }
    }

    // ---- the runs

    private void startAnew() {
        program = new ReadingChart();
        oracle = new Oracle();
        history.clear();
    }

    private void runFile(Path file) throws IOException {
        List<String> lines = Files.readAllLines(file);
        String section = "";
        List<String> recipe = null;
        int quotesWithoutRun = 0;
        for (int k = 0; k < lines.size(); k++) {
            String line = lines.get(k).trim();
            where = file.getFileName() + ":" + (k + 1);
            if (line.isEmpty() || line.startsWith("#")) {
                continue;
            }
            if (line.equals("end")) {
                recipe = null;
            } else if (recipe != null) {
                recipe.add(line);
            } else if (line.startsWith("def ")) {
                recipe = new ArrayList<>();
                recipes.put(line.substring(4), recipe);
            } else if (line.startsWith("== ")) {
                section = line.substring(3);
            } else if (line.startsWith("> ")) {
                quote(section, line.substring(2));
                quotesWithoutRun++;
                startAnew();
            } else {
                quotesWithoutRun = 0;
                step(line);
            }
        }
        if (quotesWithoutRun > 0) {
            fail("a quote without a run");
        }
    }

    private void quote(String section, String text) {
        if (!isSaid(section, text)) {
            fail("the document does not say that under " + section);
        }
        quotes.computeIfAbsent(section, s -> new ArrayList<>()).add(text);
    }

    private void step(String line) {
        if (line.equals("new")) {
            startAnew();
        } else if (line.startsWith("use ")) {
            for (String inner : recipes.getOrDefault(line.substring(4), List.of("no such recipe"))) {
                step(inner);
            }
        } else if (!line.startsWith("~ ")) {
            for (String call : line.split("; ")) {
                callLine(call);
            }
        }
    }

    private void callLine(String text) {
        Matcher m = CALL.matcher(text);
        if (!m.matches() || !Calls.NAMES.contains(m.group(2))) {
            fail("not a call: " + text);
            return;
        }
        int op = Calls.NAMES.indexOf(m.group(2));
        int[] arguments = Stream.of(m.group(3).split(", ")).filter(a -> !a.isEmpty()).mapToInt(RunsTest::number).toArray();
        if (arguments.length != Calls.arguments(op)) {
            fail("not the arguments of " + text);
            return;
        }
        int times = m.group(1) == null ? 1 : Integer.parseInt(m.group(1));
        for (int k = 0; k < times; k++) {
            call(text, op, arguments, dueAnswer(m.group(4), m.group(5), k));
        }
    }

    private static int number(String text) {
        switch (text) {
            case "NONE": return ReadingChart.NONE;
            case "MAX": return Integer.MAX_VALUE;
            case "MIN": return Integer.MIN_VALUE;
            default: return Integer.parseInt(text);
        }
    }

    /** What is due; 3.. rises from call to call; null if the answer may be any, but none that throws. */
    private String dueAnswer(String kind, String text, int call) {
        if (kind == null) {
            return null;
        }
        if (kind.equals("throws")) {
            return THROWN.get(text);
        }
        if (text.equals("BROKEN")) {
            return "1000";
        }
        if (text.equals("true") || text.equals("false")) {
            return text.equals("true") ? "1" : "0";
        }
        return text.endsWith("..") ? Integer.toString(number(text.substring(0, text.length() - 2)) + call)
            : Integer.toString(number(text));
    }

    private void call(String text, int op, int[] arguments, String due) {
        int[] told = new int[arguments.length + 1];
        told[0] = op;
        System.arraycopy(arguments, 0, told, 1, arguments.length);
        String before = due != null && due.startsWith("throws") ? State.after(history) : null;
        history.add(told);
        asked++;
        String got = Calls.answer(program, op, arguments);
        String plain = Calls.answer(oracle, op, arguments);
        if (due == null ? got.startsWith("throws") : !got.equals(due)) {
            fail(text + " answered " + got);
        }
        if (!plain.equals(due == null ? got : due)) {
            fail(text + ": the oracle answered " + plain);
        }
        if (before != null) {
            thrown++;
            if (!before.equals(State.after(history))) {
                fail(text + " throws and changes something");
            }
        }
    }

    public static void main(String[] args) throws IOException {
        RunsTest test = new RunsTest();
        test.readDocument();
        try (Stream<Path> files = Files.list(RUNS)) {
            for (Path file : files.filter(f -> f.toString().endsWith(".txt")).sorted().toList()) {
                test.runFile(file);
            }
        }
        test.everySentenceIsQuoted();
        System.out.println(test.asked + " calls, " + test.thrown + " of them to throw, " + test.wrong + " not as due");
        if (test.wrong != 0 || test.asked == 0) {
            System.exit(1);
        }
    }
}
