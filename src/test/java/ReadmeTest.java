import java.io.File;
import java.net.URL;
import java.net.URLClassLoader;
import java.nio.charset.StandardCharsets;
import java.nio.file.Files;
import java.nio.file.Path;
import java.util.ArrayList;
import java.util.List;
import java.util.regex.Matcher;
import java.util.regex.Pattern;

/** README.md: its example answers as it tells there, and what it names is there. */
public final class ReadmeTest {
    private static final Path README = Path.of("README.md");
    private static final Path TESTS = Path.of("src/test/java");
    /** A call of the example, and the answer or exception that its comment tells. */
    private static final Pattern CALL = Pattern.compile("(x\\.\\w+\\(.*\\));\\s+// (-?[0-9]+|throws [A-Za-z]+)(?:: .*)?");

    public static void main(String[] args) throws Exception {
        String text = new String(Files.readAllBytes(README), StandardCharsets.UTF_8);
        example(blocks(text, "java"));
        commands(blocks(text, "sh"));
        names(text);
        Check.end();
    }

    private static List<String> blocks(String text, String language) {
        List<String> all = new ArrayList<>();
        Matcher m = Pattern.compile("(?s)```" + language + "\n(.*?)```").matcher(text);
        while (m.find()) {
            all.add(m.group(1));
        }
        return all;
    }

    private static void example(List<String> blocks) throws Exception {
        Check.due("the examples of README.md", blocks.size(), 1);
        StringBuilder code = new StringBuilder("public final class Example {\n"
            + "public static java.util.List<String> answers() {\njava.util.List<String> all = new java.util.ArrayList<>();\n");
        List<String> calls = new ArrayList<>();
        List<String> dues = new ArrayList<>();
        for (String line : String.join("\n", blocks).split("\n")) {
            Matcher m = CALL.matcher(line);
            if (m.matches()) {
                calls.add(m.group(1));
                dues.add(m.group(2));
                code.append("try { all.add(\"\" + ").append(m.group(1)).append("); }\n")
                    .append("catch (RuntimeException e) { all.add(\"throws \" + e.getClass().getSimpleName()); }\n");
            } else {
                Check.due("a line of README.md without an answer: " + line,
                    line.isEmpty() || line.startsWith("// ") || line.startsWith("for ") || line.contains("new HexTemplates()") ? 1 : 0, 1);
                code.append(line).append('\n');
            }
        }
        List<?> answers = run(code.append("return all;\n}\n}\n").toString());
        Check.due("the answers of README.md", answers.size(), calls.size());
        for (int k = 0; k < Math.min(answers.size(), calls.size()); k++) {
            same(calls.get(k) + " of README.md", answers.get(k), dues.get(k));
        }
    }

    private static List<?> run(String code) throws Exception {
        Path place = Files.createTempDirectory("readme");
        Path source = place.resolve("Example.java");
        Path made = place.resolve("Example.class");
        try {
            Files.write(source, code.getBytes(StandardCharsets.UTF_8));
            int exit = new ProcessBuilder("javac", "-cp", System.getProperty("java.class.path"), "-d", place.toString(),
                source.toString()).inheritIO().start().waitFor();
            Check.due("javac of the example of README.md", exit, 0);
            if (exit != 0) {
                return List.of();
            }
            try (URLClassLoader loader = new URLClassLoader(new URL[] {place.toUri().toURL()})) {
                return (List<?>) loader.loadClass("Example").getMethod("answers").invoke(null);
            }
        } finally {
            Files.deleteIfExists(made);
            Files.deleteIfExists(source);
            Files.deleteIfExists(place);
        }
    }

    /** Each file that a command takes is there, and so is each class that it runs. */
    private static void commands(List<String> blocks) {
        Check.due("the commands of README.md", blocks.isEmpty() ? 0 : 1, 1);
        for (String line : String.join("", blocks).split("\n")) {
            String[] words = line.split(" ");
            boolean isKnown = words[0].equals("mkdir") || words[0].equals("javac") || words[0].equals("java") || words[0].equals(".ci/run");
            Check.due("a command of README.md: " + line, isKnown ? 1 : 0, 1);
            for (String word : words) {
                if (word.contains("/")) {
                    String file = word.endsWith("/*.java") ? word.substring(0, word.length() - 7) : word;
                    Check.due("a file of README.md: " + word, new File(file).exists() ? 1 : 0, 1);
                }
            }
            if (words[0].equals("java")) {
                String name = words[3] + ".java";
                boolean isThere = Files.exists(TESTS.resolve(name)) || Files.exists(Path.of("../shared/tests", name));
                Check.due("a test of README.md: " + line, isThere ? 1 : 0, 1);
            }
        }
    }

    /** Each test of the project is named, and each one that is named is there; so are all calls of the face. */
    private static void names(String text) {
        for (String name : TESTS.toFile().list()) {
            if (name.endsWith("Test.java")) {
                String test = name.substring(0, name.length() - 5);
                Check.due(test + " in README.md", text.contains("`" + test + "`") ? 1 : 0, 1);
            }
        }
        Matcher m = Pattern.compile("`(\\w+Test)`").matcher(text);
        while (m.find()) {
            Check.due(m.group(1), Files.exists(TESTS.resolve(m.group(1) + ".java")) ? 1 : 0, 1);
        }
        for (java.lang.reflect.Method method : HexTemplates.class.getDeclaredMethods()) {
            if (java.lang.reflect.Modifier.isPublic(method.getModifiers())) {
                Check.due(method.getName() + " in README.md", text.contains("`" + method.getName() + "`") ? 1 : 0, 1);
            }
        }
    }

    private static void same(String what, Object got, String due) {
        if (!got.equals(due)) {
            System.out.println(what + " answered " + got + ", due is " + due);
            Check.due(what, 0, 1);
        }
    }
}
