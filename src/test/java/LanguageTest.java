import java.io.File;
import java.io.IOException;
import java.io.PrintWriter;
import java.io.StringWriter;
import java.lang.reflect.Constructor;
import java.lang.reflect.Field;
import java.lang.reflect.Method;
import java.lang.reflect.Modifier;
import java.net.URISyntaxException;
import java.nio.file.Files;
import java.nio.file.Path;
import java.util.ArrayList;
import java.util.List;
import java.util.Map;
import java.util.TreeMap;
import java.util.TreeSet;
import java.util.regex.Matcher;
import java.util.regex.Pattern;
import java.util.spi.ToolProvider;

/** The face against the code block of ../shared/DOC.md, and what of ../shared/LANGUAGE.md a program can see. */
public final class LanguageTest {
    private static final List<String> LIBRARY = List.of(
        "java/lang/Object.\"<init>\":()V",
        "java/lang/Math.min:(II)I", "java/lang/Math.max:(II)I",
        "java/lang/Integer.bitCount:(I)I",
        "java/lang/IllegalArgumentException.\"<init>\":(Ljava/lang/String;)V",
        "java/lang/IllegalStateException.\"<init>\":(Ljava/lang/String;)V",
        "java/lang/IndexOutOfBoundsException.\"<init>\":(Ljava/lang/String;)V");
    private static final String[] WORDS_RULED_OUT = {
        "->", "::", "finally", "synchronized", "assert ", "static {", "import ", "package ", "try ", "catch ",
        "@Override", "instanceof", "NaN", "toString", "hashCode", "System."
    };

    private final Check check = new Check();
    private final Map<String, List<String>> calls = new TreeMap<>();

    private void faceIsTheDocuments() throws IOException {
        String doc = Files.readString(Path.of("../shared/DOC.md"));
        int from = doc.indexOf("```java") + 7;
        TreeSet<String> due = new TreeSet<>();
        for (String line : doc.substring(from, doc.indexOf("```", from)).split("\n")) {
            Matcher m = Pattern.compile("public (.*?)(?: throws (.*))?;").matcher(line.trim());
            if (m.matches() && !line.contains("class")) {
                String thrown = m.group(2) == null ? "" : " throws " + String.join(", ", new TreeSet<>(List.of(m.group(2).split(", "))));
                due.add(m.group(1).replaceAll(" (\\w+)([,)])", "$2") + thrown);
            }
        }
        TreeSet<String> got = new TreeSet<>();
        for (Method m : ReadingChart.class.getDeclaredMethods()) {
            if (Modifier.isPublic(m.getModifiers())) {
                got.add(m.getReturnType().getSimpleName() + " " + m.getName() + list(m.getParameterTypes())
                        + thrown(m.getExceptionTypes()));
            }
        }
        for (Constructor<?> c : ReadingChart.class.getDeclaredConstructors()) {
            got.add("ReadingChart" + list(c.getParameterTypes()) + thrown(c.getExceptionTypes()));
        }
        for (Field f : ReadingChart.class.getDeclaredFields()) {
            if (Modifier.isPublic(f.getModifiers())) {
                got.add("static final int " + f.getName() + (f.getName().equals("NONE") ? " = -1" : " = 1000"));
            }
        }
        check.that("the face is " + got + ", due is " + due, got.equals(due) && due.size() == 35);
    }

    private static String list(Class<?>[] types) {
        List<String> names = new ArrayList<>();
        for (Class<?> t : types) {
            names.add(t.getSimpleName());
        }
        return "(" + String.join(", ", names) + ")";
    }

    private static String thrown(Class<?>[] types) {
        TreeSet<String> names = new TreeSet<>();
        for (Class<?> t : types) {
            names.add(t.getSimpleName());
        }
        return names.isEmpty() ? "" : " throws " + String.join(", ", names);
    }

    private void membersAreHidden() {
        Class<?> main = ReadingChart.class;
        check.that("the class is not public and final", Modifier.isPublic(main.getModifiers()) && Modifier.isFinal(main.getModifiers()));
        TreeSet<String> shown = new TreeSet<>();
        for (Method m : main.getDeclaredMethods()) {
            check.that(m + " is neither public nor private", Modifier.isPublic(m.getModifiers()) || Modifier.isPrivate(m.getModifiers()));
            if (Modifier.isPublic(m.getModifiers())) {
                shown.add(m.getName());
            }
        }
        for (Field f : main.getDeclaredFields()) {
            check.that(f + " is neither public nor private", Modifier.isPublic(f.getModifiers()) || Modifier.isPrivate(f.getModifiers()));
        }
        List<Class<?>> all = new ArrayList<>(List.of(main.getDeclaredClasses()));
        check.that("there are too many classes", all.size() < 12);
        for (Class<?> c : all) {
            check.that(c + " is not static", Modifier.isStatic(c.getModifiers()));
            check.that(c + " is public or protected", (c.getModifiers() & (Modifier.PUBLIC | Modifier.PROTECTED)) == 0);
        }
        all.add(main);
        for (Class<?> c : all) {
            sizesOf(c, shown);
        }
    }

    private void sizesOf(Class<?> c, TreeSet<String> shown) {
        int fields = 0;
        for (Field f : c.getDeclaredFields()) {
            boolean isStatic = Modifier.isStatic(f.getModifiers());
            check.that(f + " is static and not final", !isStatic || Modifier.isFinal(f.getModifiers()));
            check.that(f + " is a static array or object", !isStatic || f.getType().isPrimitive());
            fields += isStatic ? 0 : 1;
        }
        check.that(c + " has too many fields", fields <= 20);
        for (Method m : c.getDeclaredMethods()) {
            check.that(m + " has too many parameters", m.getParameterCount() <= 7);
            check.that(m + " bears the name of a public one",
                    Modifier.isPublic(m.getModifiers()) || !shown.contains(m.getName()));
        }
    }

    private void sourceKeepsToTheRules() throws IOException {
        String source = Files.readString(Path.of("src/main/java/ReadingChart.java"));
        for (int k = 0; k < source.length(); k++) {
            char sign = source.charAt(k);
            if (sign != '\n' && (sign < 32 || sign > 126)) {
                check.that("a sign that is ruled out at " + k, false);
            }
        }
        String code = source.replaceAll("(?s)/\\*.*?\\*/", "").replaceAll("//[^\n]*", "");
        for (String word : WORDS_RULED_OUT) {
            check.that("the source has " + word, !code.contains(word));
        }
        check.that("more than one class in the file", Pattern.compile("(?m)^\\S*.*\\bclass\\b").matcher(code).find()
                && !Pattern.compile("(?m)^(final |abstract )?(class|interface|enum|record) ").matcher(code).find());
        String[] lines = source.split("\n");
        for (int k = 0; k < lines.length; k++) {
            Matcher m = Pattern.compile("^( {4}| {8})(?! ).*\\) .*\\{$|^( {4}| {8})(?! ).*\\) \\{$").matcher(lines[k]);
            if (m.find() && !lines[k].contains(" class ")) {
                String indent = lines[k].substring(0, lines[k].indexOf(lines[k].trim()));
                int end = k;
                while (end < lines.length && !lines[end].equals(indent + "}")) {
                    end++;
                }
                check.that("a method of more than 60 lines at line " + (k + 1), end - k <= 60);
            }
        }
    }

    /** Each call stands under the heading that the document has ahead of it. */
    private void headingsAreTheDocuments() throws IOException {
        String doc = Files.readString(Path.of("../shared/DOC.md"));
        String source = Files.readString(Path.of("src/main/java/ReadingChart.java"));
        Matcher said = Pattern.compile("Ahead of the calls (.*) the interface says: (---- .*)\\.").matcher(doc);
        int headings = 0;
        while (said.find()) {
            headings++;
            for (String call : said.group(1).replace("`", "").split(", ")) {
                Matcher face = Pattern.compile("(?m)^    public (int|boolean) " + call + "\\(").matcher(source);
                String ahead = face.find() ? source.substring(0, face.start()) : "";
                String[] behindMarks = ahead.split("// (?=---- )");
                String heading = behindMarks[behindMarks.length - 1].split("\n")[0];
                check.that(call + " stands under " + heading, heading.equals(said.group(2)));
            }
        }
        check.that("the document has " + headings + " headings", headings == 7);
    }

    /** What the compiled methods call, as javap shows it. */
    private void readCalls() throws URISyntaxException {
        File dir = new File(ReadingChart.class.getProtectionDomain().getCodeSource().getLocation().toURI());
        List<String> args = new ArrayList<>(List.of("-c", "-p"));
        for (String name : dir.list()) {
            if (name.equals("ReadingChart.class") || name.startsWith("ReadingChart$")) {
                args.add(new File(dir, name).getPath());
            }
        }
        StringWriter out = new StringWriter();
        PrintWriter print = new PrintWriter(out);
        int code = ToolProvider.findFirst("javap").orElseThrow().run(print, print, args.toArray(new String[0]));
        check.that("javap ended with " + code, code == 0);
        String inClass = "";
        String inMethod = "";
        for (String line : out.toString().split("\n")) {
            Matcher c = Pattern.compile("class (\\S+).*\\{$").matcher(line);
            Matcher m = Pattern.compile("^  \\S.*?([\\w$]+)\\((.*)\\).*;$").matcher(line);
            Matcher call = Pattern.compile("invoke\\w+ +#\\d+(?:,  \\d+)? +// \\w+ (\\S+)").matcher(line);
            if (!line.startsWith(" ") && c.find()) {
                inClass = c.group(1);
            } else if (m.matches()) {
                String name = m.group(1).equals(inClass) ? "\"<init>\"" : m.group(1);
                inMethod = inClass + "." + name;
                check.that(inMethod + " stands twice", calls.put(inMethod, new ArrayList<>()) == null);
            } else if (call.find()) {
                take(inClass, inMethod, call.group(1));
            }
            check.that("an exception is caught in " + inMethod, !line.contains("Exception table"));
            check.that("a throw in a constructor", !(line.contains(": athrow") && inMethod.contains("<init>")));
            check.that("a class has a static block: " + inClass, !line.contains("static {}"));
        }
    }

    private void take(String inClass, String inMethod, String called) {
        String full = called.split(":")[0].contains(".") ? called : inClass + "." + called;
        if (full.startsWith("ReadingChart")) {
            calls.get(inMethod).add(full.split(":")[0]);
        } else {
            check.that(inMethod + " calls " + full, LIBRARY.contains(full));
        }
    }

    private List<String> deepest = List.of();

    private int depthOf(String method, List<String> open) {
        if (open.contains(method)) {
            check.that("a recursion: " + open + " " + method, false);
            return 0;
        }
        open.add(method);
        if (open.size() > deepest.size()) {
            deepest = new ArrayList<>(open);
        }
        int depth = 0;
        for (String next : calls.getOrDefault(method, List.of())) {
            depth = Math.max(depth, depthOf(next, open));
        }
        open.remove(open.size() - 1);
        return depth + 1;
    }

    private void callsStayShallow() {
        for (String method : calls.keySet()) {
            int depth = depthOf(method, new ArrayList<>());
            // One less than the eight of rule 11, in case the caller of the face counts too.
            check.that(method + " calls " + depth + " deep", depth <= 7);
        }
        System.out.println("calls go " + deepest.size() + " deep in " + calls.size() + " methods: " + deepest);
        check.that("too few methods were seen", calls.size() > 60);
    }

    public static void main(String[] args) throws IOException, URISyntaxException {
        LanguageTest test = new LanguageTest();
        test.faceIsTheDocuments();
        test.membersAreHidden();
        test.sourceKeepsToTheRules();
        test.headingsAreTheDocuments();
        test.readCalls();
        test.callsStayShallow();
        test.check.end();
    }
}
