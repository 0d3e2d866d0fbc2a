import java.io.File;
import java.io.IOException;
import java.lang.reflect.Method;
import java.lang.reflect.Modifier;
import java.nio.charset.StandardCharsets;
import java.nio.file.Files;
import java.nio.file.Path;
import java.util.ArrayList;
import java.util.Arrays;
import java.util.List;
import java.util.Set;
import java.util.TreeSet;
import java.util.regex.Matcher;
import java.util.regex.Pattern;

/** The examples of README.md answer as README.md says; its commands for some tests alone work. */
public final class ReadmeTests {
    // A call on a line of its own, and the answer that stands behind it.
    private static final Pattern CALL = Pattern.compile("(x\\.(\\w+)\\(.*?\\)); +// (-?\\d+)(?::.*)?");
    private static final Set<String> REFUSALS = Set.of("-1", "-2", "-3", "-4", "-5", "-6", "-10", "-10001", "-10002");
    private static final String ALL_TESTS = ".ci/run";

    private static int wrong = 0;

    private record Outcome(int exit, String told) {
    }

    private static void hold(boolean holds, String what) {
        if (!holds) {
            wrong++;
            System.out.println("does not hold: " + what);
        }
    }

    /** The lines of all blocks of a language, one behind the other: later examples go on with the same object. */
    private static List<String> blocks(String readme, String language) {
        List<String> lines = new ArrayList<>();
        Matcher m = Pattern.compile("(?s)```" + language + "\n(.*?)```").matcher(readme);
        while (m.find()) {
            lines.addAll(Arrays.asList(m.group(1).split("\n")));
        }
        return lines;
    }

    private static Outcome done(String... command) throws IOException, InterruptedException {
        Process process = new ProcessBuilder(command).redirectErrorStream(true).start();
        String told = new String(process.getInputStream().readAllBytes(), StandardCharsets.UTF_8);
        return new Outcome(process.waitFor(), told);
    }

    /** The examples as a program that ends with 1 if an answer is not the one that README.md tells. */
    private static String program(List<String> lines, Set<String> calls, Set<String> answers) {
        StringBuilder all = new StringBuilder();
        all.append("public final class Examples {\n    static int wrong = 0;\n");
        all.append("    static void due(String call, long got, long want) {\n        if (got != want) {\n");
        all.append("            wrong++;\n            System.out.println(call + \" answers \" + got");
        all.append(" + \", README.md says \" + want);\n        }\n    }\n");
        all.append("    public static void main(String[] args) {\n");
        for (String line : lines) {
            Matcher m = CALL.matcher(line);
            if (!m.matches()) {
                hold(!line.startsWith("x."), "a call stands alone on its line, and behind it its answer: " + line);
                all.append(line).append("\n");
                continue;
            }
            calls.add(m.group(2));
            answers.add(m.group(3));
            all.append("due(\"").append(m.group(1)).append("\", ").append(m.group(1)).append(", ")
                .append(m.group(3)).append("L);\n");
        }
        return all.append("System.exit(wrong == 0 ? 0 : 1);\n    }\n}\n").toString();
    }

    private static void examples(String readme) throws IOException, InterruptedException {
        Set<String> calls = new TreeSet<>();
        Set<String> answers = new TreeSet<>();
        List<String> lines = blocks(readme, "java");
        String source = program(lines, calls, answers);
        for (String line : lines) {
            Matcher inLoop = Pattern.compile(" +x\\.(\\w+)\\(.*").matcher(line);
            if (inLoop.matches()) {
                calls.add(inLoop.group(1));
            }
        }
        for (Method m : SoldWeather.class.getDeclaredMethods()) {
            hold(!Modifier.isPublic(m.getModifiers()) || calls.contains(m.getName()), m.getName() + " is shown");
        }
        for (String refusal : REFUSALS) {
            hold(answers.contains(refusal), "a call is shown that answers " + refusal);
        }
        Path place = Files.createTempDirectory("readme");
        Path file = place.resolve("Examples.java");
        Files.writeString(file, source);
        String classes = System.getProperty("java.class.path");
        Outcome compiled = done("javac", "-d", place.toString(), "-cp", classes, file.toString());
        hold(compiled.exit == 0, "the examples can be compiled:\n" + compiled.told);
        Outcome ran = done("java", "-cp", place + File.pathSeparator + classes, "Examples");
        hold(ran.exit == 0, "the examples answer as README.md says:\n" + ran.told);
        for (File left : place.toFile().listFiles()) {
            Files.delete(left.toPath());
        }
        Files.delete(place);
    }

    private static Set<String> ranIn(String told) {
        Set<String> names = new TreeSet<>();
        Matcher m = Pattern.compile("(?m)^== .*?(\\w+)\\.java$").matcher(told);
        while (m.find()) {
            names.add(m.group(1));
        }
        return names;
    }

    private static void commands(String readme) throws IOException, InterruptedException {
        List<String> lines = blocks(readme, "sh");
        hold(lines.contains(ALL_TESTS), "README.md says how to run all tests");
        int alone = 0;
        for (String line : lines) {
            Set<String> names = new TreeSet<>(Arrays.asList(line.split(" ")));
            if (line.equals(ALL_TESTS) || !names.remove(ALL_TESTS) || names.contains("ReadmeTests")) {
                hold(line.equals(ALL_TESTS), "a command that this test may run without running itself: " + line);
                continue;
            }
            alone += names.size() == 1 ? 1 : 0;
            Outcome ran = done("sh", "-c", line);
            hold(ran.exit == 0, line + " ends with 0:\n" + ran.told);
            hold(ranIn(ran.told).equals(names), line + " runs these alone:\n" + ran.told);
        }
        hold(alone > 0, "README.md says how to run one test alone");
        hold(done("sh", "-c", ALL_TESTS + " NoSuchTest").exit == 1, "a name without a test ends with 1");
    }

    private static void names(String readme) {
        for (String place : new String[] {"src/test/java", "../shared/tests"}) {
            String[] files = new File(place).list();
            hold(files != null && files.length > 0, place + " has tests");
            for (String file : files == null ? new String[0] : files) {
                String name = file.replace(".java", "");
                hold(readme.contains("`" + name + "`"), "README.md tells of " + name);
            }
        }
    }

    public static void main(String[] args) throws Exception {
        String readme = Files.readString(Path.of("README.md"));
        examples(readme);
        commands(readme);
        names(readme);
        System.out.println(wrong == 0 ? "README.md says what holds" : wrong + " things of README.md do not hold");
        if (wrong != 0) {
            System.exit(1);
        }
    }
}
