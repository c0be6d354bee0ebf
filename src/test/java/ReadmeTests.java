import java.io.IOException;
import java.lang.reflect.Method;
import java.lang.reflect.Modifier;
import java.nio.file.Files;
import java.nio.file.Path;
import java.util.ArrayList;
import java.util.List;
import java.util.Map;
import java.util.TreeMap;
import java.util.regex.Matcher;
import java.util.regex.Pattern;

/** What README.md shows is what the class answers, and no call is left out of it. */
public final class ReadmeTests {
    private final Checks checks = new Checks();
    private final List<String> lines;

    private ReadmeTests(List<String> lines) {
        this.lines = lines;
    }

    public static void main(String[] args) throws IOException {
        ReadmeTests tests = new ReadmeTests(Files.readAllLines(Path.of("README.md")));
        tests.examples();
        tests.calls();
        tests.answersBelow0();
        tests.testsToRun();
        tests.checks.end("ReadmeTests");
    }

    private String lineThatBegins(String words) {
        for (String line : lines) if (line.startsWith(words)) return line;
        checks.isTrue("a line that begins with <" + words + ">", false);
        return "";
    }

    /** README.md shows a call, and behind it what it answers. */
    private void shown(String call, long answer) {
        Matcher told = Pattern.compile("// (-?\\d+):").matcher(lineThatBegins("papers." + call + ";"));
        if (told.find()) checks.due(call + " in README.md", answer, Long.parseLong(told.group(1)));
        else checks.isTrue(call + " with its answer in README.md", false);
    }

    private void examples() {
        ElderPapers papers = new ElderPapers();
        shown("person(0, 1, 0)", papers.person(0, 1, 0));
        shown("paper(0, 2, 40, 11, 20, 0)", papers.paper(0, 2, 40, 11, 20, 0));
        shown("paper(0, 3, 60, 50, 30, 0)", papers.paper(0, 3, 60, 50, 30, 0));
        shown("personOf(0, 3)", papers.personOf(0, 3));
        shown("best(0)", papers.best(0));
        shown("share(0, 50, 0)", papers.share(0, 50, 0));
        shown("share(0, 50, 1)", papers.share(0, 50, 1));
        shown("best(1)", papers.best(1));
        feed(papers, lineThatBegins("String text = ").split("\"")[1]);
        shown("read()", papers.read());
        shown("takes(0)", papers.takes(0));
        shown("clause(0)", papers.clause(0));
    }

    private void feed(ElderPapers papers, String text) {
        for (int i = 0; i < text.length(); i += 8) {
            int n = Math.min(8, text.length() - i);
            long eight = 0;
            for (int k = 0; k < n; k++) eight |= (long) text.charAt(i + k) << (8 * k);
            checks.due("bytes of the tape", papers.feed(eight, n), i + n);
        }
        lineThatBegins("    for (int k = 0; k < n; k++) eight |= (long) text.charAt(i + k) << (8 * k);");
    }

    /** Every call stands in a table, with as many numbers as it takes, and no other call does. */
    private void calls() {
        Map<String, Integer> told = new TreeMap<>();
        for (String line : lines) {
            Matcher call = Pattern.compile("\\| `(\\w+)\\(([^)]*)\\)` \\|.*").matcher(line);
            if (!call.matches()) continue;
            int numbers = call.group(2).isEmpty() ? 0 : call.group(2).split(", ").length;
            checks.isTrue(call.group(1) + " is told once", told.put(call.group(1), numbers) == null);
        }
        Map<String, Integer> made = new TreeMap<>();
        for (Method m : ElderPapers.class.getDeclaredMethods()) {
            if (Modifier.isPublic(m.getModifiers())) made.put(m.getName(), m.getParameterCount());
        }
        checks.isTrue("the calls that README.md tells: " + told + ", those of the class: " + made, told.equals(made));
    }

    private void answersBelow0() {
        Map<String, Integer> constants = Map.of("`BAD`", ElderPapers.BAD, "`FULL`", ElderPapers.FULL,
            "`NONE`", ElderPapers.NONE, "`STATE`", ElderPapers.STATE);
        constants.forEach((name, answer) -> lineThatBegins("| " + answer + " | " + name + " |"));
        for (int answer = -15; answer <= -11; answer++) lineThatBegins("| " + answer + " | ");
    }

    /** Each test of the project is told of by its name. */
    private void testsToRun() throws IOException {
        List<String> names = new ArrayList<>();
        try (var files = Files.list(Path.of("src/test/java"))) {
            files.map(file -> file.getFileName().toString()).filter(name -> name.endsWith("Tests.java"))
                .forEach(name -> names.add("`" + name.replace(".java", "") + "`"));
        }
        for (String name : names) {
            checks.isTrue(name, lines.stream().anyMatch(line -> line.startsWith("- ") && line.contains(name)));
        }
    }
}
