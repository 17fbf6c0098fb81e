import java.lang.reflect.Method;
import java.net.URL;
import java.net.URLClassLoader;
import java.nio.file.Files;
import java.nio.file.Path;
import java.util.ArrayList;
import java.util.Arrays;
import java.util.List;
import java.util.Set;
import java.util.TreeSet;
import java.util.regex.Matcher;
import java.util.regex.Pattern;
import java.util.stream.Collectors;
import java.util.stream.Stream;
import javax.tools.ToolProvider;

/** README.md is true: its examples answer what stands behind them, its tables hold, and what it names is there. */
public final class ReadmeTest {
    private static final Pattern ANSWERED = Pattern.compile("(studio\\..*?);\\s+// ([^:]+): .*");
    private static final Pattern REFUSED = Pattern.compile("\\| `([^`]+\\))` \\| `(\\w+)` \\| .* \\|");
    private static final Pattern WRONG_TEXT = Pattern.compile("\\| (\\d) \\| .* \\| `([^`]+)` \\| (\\d+) \\|");
    private static final Pattern FORM = Pattern.compile("`([a-z]+)((?: [A-Z]+)+);`");
    private static final Pattern RANGE = Pattern.compile("(\\d+) (?:to|or) (\\d+)");

    public static void main(String[] args) throws Exception {
        List<String> page = Files.readAllLines(Path.of("README.md"));
        examples(page);
        wrongTexts(page);
        forms(page);
        names(String.join("\n", page));
        Check.report("ReadmeTest");
    }

    // ---- examples and refused calls ----

    private static List<String> blocks(List<String> page) {
        Matcher block = Pattern.compile("(?s)```java\\n(.*?)```").matcher(String.join("\n", page));
        List<String> blocks = new ArrayList<>();
        while (block.find()) blocks.add(block.group(1));
        return blocks;
    }

    /** Writes a class around the examples that lists what they answer, compiles it and lets it run. */
    private static void examples(List<String> page) throws Exception {
        List<String> blocks = blocks(page);
        Check.same("there are two examples", blocks.size(), 2);
        List<String> asked = new ArrayList<>();
        List<String> due = new ArrayList<>();
        StringBuilder body = new StringBuilder();
        for (String line : blocks.get(1).split("\n")) {
            Matcher answered = ANSWERED.matcher(line);
            if (answered.matches()) {
                body.append("got.add(answer(() -> ").append(answered.group(1)).append("));\n");
                asked.add(answered.group(1));
                due.add(plain(answered.group(2)));
            } else {
                Check.same("no answer is told of " + line, line.startsWith("put(") || line.contains("= new "), true);
                body.append(line).append('\n');
            }
        }
        Check.same("examples", asked.size() > 15, true);
        Matcher loaded = Pattern.compile("put\\(studio, \".*?\"\\);").matcher(blocks.get(1));
        Check.same("a text is put first", loaded.find(), true);
        int rows = 0;
        for (String line : page) {
            Matcher refused = REFUSED.matcher(line);
            if (!refused.matches()) continue;
            rows++;
            body.append("{ RepairStudio studio2 = new RepairStudio();").append(loaded.group().replace("studio", "studio2"));
            body.append(" studio2.load(); got.add(answer(() -> ").append(refused.group(1).replace("studio.", "studio2.")).append(")); }\n");
            asked.add(refused.group(1));
            due.add(plain(refused.group(2)));
        }
        Check.same("refused calls", rows > 15, true);
        List<?> got = run(blocks.get(0), body.toString());
        Check.same("as many answers", got.size(), due.size());
        for (int at = 0; at < due.size(); at++) Check.same(asked.get(at), got.get(at), due.get(at));
    }

    private static String plain(String answer) throws Exception {
        return answer.matches("[A-Z_]+") ? String.valueOf(RepairStudio.class.getField(answer).getInt(null)) : answer;
    }

    private static List<?> run(String helper, String body) throws Exception {
        String text = "public class Example {\n interface Ask { Object ask(); }\n"
                + "static String answer(Ask ask) { try { return String.valueOf(ask.ask()); } catch (RuntimeException e) { return e.getClass().getSimpleName(); } }\n"
                + helper + "public static java.util.List<String> run() {\n java.util.List<String> got = new java.util.ArrayList<>();\n" + body + "return got; }\n}\n";
        Path folder = Files.createTempDirectory("readme");
        Path file = folder.resolve("Example.java");
        try {
            Files.writeString(file, text);
            int code = ToolProvider.getSystemJavaCompiler().run(null, null, null, "-cp", System.getProperty("java.class.path"), "-d",
                    folder.toString(), file.toString());
            Check.same("the examples compile", code, 0);
            if (code != 0) return List.of();
            try (URLClassLoader loader = new URLClassLoader(new URL[] {folder.toUri().toURL()})) {
                return (List<?>) loader.loadClass("Example").getMethod("run").invoke(null);
            }
        } finally {
            try (Stream<Path> files = Files.list(folder)) {
                for (Path made : files.collect(Collectors.toList())) Files.delete(made);
            }
            Files.delete(folder);
        }
    }

    // ---- texts ----

    private static int code(String text, boolean script) {
        CountedStudio studio = new CountedStudio();
        Check.input(studio, text);
        int answer = script ? studio.play() : studio.load();
        Check.same("TEXT_ERROR or none of " + text, answer == RepairStudio.TEXT_ERROR, studio.errorCode() > 0);
        return studio.errorCode();
    }

    private static void wrongTexts(List<String> page) {
        int rows = 0;
        for (String line : page) {
            Matcher row = WRONG_TEXT.matcher(line);
            if (!row.matches()) continue;
            rows++;
            CountedStudio studio = new CountedStudio();
            Check.input(studio, row.group(2));
            Check.same(line, studio.load(), RepairStudio.TEXT_ERROR);
            Check.same(line + ": code", studio.errorCode(), Integer.valueOf(row.group(1)));
            Check.same(line + ": position", studio.errorPosition(), Integer.valueOf(row.group(3)));
        }
        Check.same("wrong texts", rows, 5);
    }

    /** The tables of statements and commands: how many there can be, and the range of each number. */
    private static void forms(List<String> page) {
        boolean script = false;
        Set<String> words = new TreeSet<>();
        for (String line : page) {
            if (line.startsWith("| `play()` reads, at most 40")) script = true;
            Matcher form = FORM.matcher(line);
            if (!line.startsWith("| `")) continue;
            while (form.find()) {
                words.add(form.group(1));
                form(form.group(1), form.group(2).trim().split(" ").length, line, script);
            }
        }
        Check.same("words", words, new TreeSet<>(List.of("benches", "life", "press", "recipe", "object", "plan", "cancel", "approve", "recall", "lend", "tick")));
    }

    private static void form(String word, int numbers, String line, boolean script) {
        Matcher range = RANGE.matcher(line.substring(line.indexOf("|", 1)));
        int[] least = new int[numbers];
        int[] greatest = new int[numbers];
        for (int at = 0; at < numbers; at++) {
            Check.same("a range of number " + at + " of " + word, range.find(), true);
            least[at] = Integer.parseInt(range.group(1));
            greatest[at] = Integer.parseInt(range.group(2));
        }
        Check.same("no further range of " + word, range.find(), false);
        Check.same("least numbers of " + word, code(text(word, least), script), 0);
        Check.same("greatest numbers of " + word, code(text(word, greatest), script), 0);
        for (int at = 0; at < numbers; at++) {
            int[] wrong = greatest.clone();
            wrong[at]++;
            Check.same("above number " + at + " of " + word, code(text(word, wrong), script), 2);
            wrong[at] = least[at] - 1;
            if (least[at] > 0) Check.same("below number " + at + " of " + word, code(text(word, wrong), script), 2);
        }
        Matcher most = Pattern.compile("at most (\\d+|once)").matcher(line);
        int count = script ? 40 : most.find() ? Integer.parseInt(most.group(1).replace("once", "1")) : 0;
        Check.same("as many of " + word, code(text(word, least).repeat(count), script), 0);
        Check.same("one more of " + word, code(text(word, least).repeat(count + 1), script), count == 1 ? 3 : 4);
    }

    private static String text(String word, int[] numbers) {
        return word + Arrays.stream(numbers).mapToObj(n -> " " + n).collect(Collectors.joining()) + ";";
    }

    // ---- names ----

    private static void names(String page) throws Exception {
        Set<String> methods = new TreeSet<>();
        for (Method m : RepairStudio.class.getMethods()) methods.add(m.getName());
        Set<String> classes = new TreeSet<>();
        for (Class<?> c : RepairStudio.class.getDeclaredClasses()) classes.add(c.getSimpleName());
        try (Stream<Path> files = Files.list(Path.of("src/test/java"))) {
            for (Path file : files.collect(Collectors.toList())) {
                String name = file.getFileName().toString().replace(".java", "");
                classes.add(name);
                Check.same("the page names " + name, name.equals("Check") || page.contains("`" + name + "`"), true);
            }
        }
        Matcher quoted = Pattern.compile("`([^`\n]+)`").matcher(page.replaceAll("(?s)```.*?```", ""));
        while (quoted.find()) {
            String name = quoted.group(1);
            if (name.matches("[a-zA-Z]+\\(\\)")) Check.same(name, methods.contains(name.replace("()", "")), true);
            if (name.contains("/")) Check.same(name, Files.exists(Path.of(name)), true);
            if (name.matches("(?:[A-Z][a-z]+)+") && !name.endsWith("Exception")) {
                Check.same(name, classes.contains(name) || name.equals("RepairStudio"), true);
            }
        }
        for (String path : new String[] {".ci/run", "../shared/DOC.md", "../shared/LANGUAGE.md", "../shared/tests", "src/test/java"}) {
            Check.same("the page names " + path, page.contains(path), true);
            Check.same(path, Files.exists(Path.of(path)), true);
        }
    }
}
