import java.io.File;
import java.net.URL;
import java.net.URLClassLoader;
import java.nio.file.Files;
import java.nio.file.Path;
import java.util.ArrayList;
import java.util.List;
import java.util.regex.Matcher;
import java.util.regex.Pattern;
import javax.tools.ToolProvider;

/** README.md: its examples answer what they say, and it tells of each method and each test. */
public final class ReadmeTest {
    // A line of an example that tells an answer: "int n = x.call(..);  // 7, and why".
    private static final Pattern TOLD =
            Pattern.compile("(?:(?:int|long|boolean) (\\w+) = )?(x\\..*);\\s+// (-?\\d+|true|false)\\b.*");
    private static final Pattern EXAMPLE = Pattern.compile("```java\n(.*?)```", Pattern.DOTALL);

    public static void main(String[] args) throws Exception {
        Due due = new Due();
        String readme = Files.readString(Path.of("README.md"));
        due.by("README.md says how to use the class (each method, what it takes, what it answers, when it refuses)");
        tellsEachMethod(due, readme);
        due.by("README.md's examples answer what they say");
        answersAsItsExamples(due, readme);
        due.by("README.md says how to run its tests");
        tellsEachTest(due, readme);
        due.end();
    }

    private static void tellsEachMethod(Due due, String readme) throws Exception {
        Matcher face = Pattern.compile("    (public (?!static).*;)").matcher(Files.readString(Path.of("../shared/DOC.md")));
        int methods = 0;
        while (face.find()) {
            methods++;
            String heading = "\n### `" + face.group(1) + "`\n";
            int from = readme.indexOf(heading);
            due.same("README.md has" + heading, from >= 0, true);
            if (from < 0 || !face.group(1).contains("(int ")) {
                continue;
            }
            int next = readme.indexOf("\n##", from + heading.length());
            String told = readme.substring(from, next < 0 ? readme.length() : next);
            for (String part : new String[] {"- Takes: ", "- Answers: ", "- Refuses: "}) {
                due.same(face.group(1) + " has " + part, told.contains(part), true);
            }
        }
        due.same("the face has methods", methods, 13);
    }

    private static void answersAsItsExamples(Due due, String readme) throws Exception {
        Path out = Files.createTempDirectory("readme");
        Matcher examples = EXAMPLE.matcher(readme);
        int count = 0;
        while (examples.find()) {
            String name = "ReadmeExample" + count;
            count++;
            File file = out.resolve(name + ".java").toFile();
            Files.writeString(file.toPath(), program(name, examples.group(1)));
            int refused = ToolProvider.getSystemJavaCompiler().run(null, null, null, "-proc:none", "-d", out.toString(),
                    "-cp", System.getProperty("java.class.path"), file.getPath());
            due.same("example " + count + " compiles", refused, 0);
            if (refused == 0) {
                run(due, out, name);
            }
        }
        due.same("there are examples", count > 0, true);
        for (File file : out.toFile().listFiles()) {
            file.delete();
        }
        out.toFile().delete();
    }

    /** The example as a class that hands each call, its answer and what README.md says of it on. */
    private static String program(String name, String example) {
        StringBuilder source = new StringBuilder("public final class " + name
                + " {\n    public static void run(java.util.List<String[]> answers) {\n");
        for (String line : example.split("\n")) {
            Matcher told = TOLD.matcher(line.strip());
            if (!told.matches()) {
                source.append(line).append('\n');
                continue;
            }
            String answer = told.group(2);
            if (told.group(1) != null) {
                source.append(line).append('\n');
                answer = told.group(1);
            }
            source.append("answers.add(new String[] {\"").append(told.group(2)).append("\", String.valueOf(")
                    .append(answer).append("), \"").append(told.group(3)).append("\"});\n");
        }
        return source.append("    }\n}\n").toString();
    }

    private static void run(Due due, Path out, String name) throws Exception {
        List<String[]> answers = new ArrayList<>();
        try (URLClassLoader loader = new URLClassLoader(new URL[] {out.toUri().toURL()})) {
            loader.loadClass(name).getMethod("run", List.class).invoke(null, answers);
        }
        due.same(name + " tells answers", !answers.isEmpty(), true);
        for (String[] one : answers) {
            due.same("README.md: " + one[0], one[1], one[2]);
        }
    }

    private static void tellsEachTest(Due due, String readme) {
        due.same("README.md tells of .ci/run", readme.contains("\n.ci/run\n"), true);
        for (String name : new File("src/test/java").list()) {
            String row = name.endsWith("Test.java") ? "| `" + name.replace(".java", "") + "` |" : "`" + name + "`";
            due.same("README.md tells of " + name, readme.contains(row), true);
        }
    }
}
