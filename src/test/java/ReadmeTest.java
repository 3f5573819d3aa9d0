import java.io.IOException;
import java.net.URL;
import java.net.URLClassLoader;
import java.nio.charset.StandardCharsets;
import java.nio.file.Files;
import java.nio.file.Path;
import java.util.ArrayList;
import java.util.List;
import java.util.regex.Matcher;
import java.util.regex.Pattern;
import javax.tools.ToolProvider;

/**
 * The README's example, compiled out of its Java blocks: each call with an answer behind it is asked, and its
 * answer compared. What the README says of the face and of the tests must be all that there is.
 */
public final class ReadmeTest {
    /** A call, and behind it the answer: a number, true or false, up to a colon or the line's end. */
    private static final Pattern ASKED = Pattern.compile("(\\w[^;]*\\((?:\"[^\"]*\"|[^\"])*\\)); +// (-?\\d+|true|false)(:.*)?");

    private static int wrong = 0;

    public static void main(String[] args) throws Exception {
        String readme = Files.readString(Path.of("README.md"), StandardCharsets.UTF_8);
        List<String> blocks = blocksOf(readme);
        hold("the README has a block of calls and a block of help", blocks.size() == 2);
        if (blocks.size() == 2) {
            Path out = Files.createTempDirectory("readme");
            compile(out, program(blocks.get(0), blocks.get(1)));
            run(out);
            remove(out);
            everyCallIsShown(blocks.get(0) + blocks.get(1));
        }
        everyTestIsNamed(readme);
        System.out.println(wrong == 0 ? "the README is as the class" : wrong + " faults of the README");
        if (wrong != 0) {
            System.exit(1);
        }
    }

    private static void hold(String what, boolean holds) {
        if (!holds) {
            wrong++;
            System.out.println("not so: " + what);
        }
    }

    private static List<String> blocksOf(String readme) {
        List<String> blocks = new ArrayList<>();
        Matcher block = Pattern.compile("(?s)```java\n(.*?)```").matcher(readme);
        while (block.find()) {
            blocks.add(block.group(1));
        }
        return blocks;
    }

    private static String program(String calls, String help) {
        StringBuilder text = new StringBuilder("public final class ReadmeExample {\n");
        text.append("static int wrong = 0;\n");
        text.append("static void due(String call, Object want, Object got) { if (!want.equals(got)) { wrong++;\n");
        text.append("System.out.println(call + \" answered \" + got + \", due is \" + want); } }\n");
        text.append(help).append("public static int run() {\n");
        int asked = 0;
        for (String line : calls.split("\n")) {
            Matcher call = ASKED.matcher(line);
            if (call.matches()) {
                asked++;
                String shown = call.group(1).replace("\"", "\\\"");
                line = "due(\"" + shown + "\", " + call.group(2) + ", " + call.group(1) + ");";
            } else {
                hold("a call with an answer, a comment or nothing: " + line,
                    line.isBlank() || line.startsWith("// ") || line.equals("NamedAgain house = new NamedAgain();"));
            }
            text.append(line).append('\n');
        }
        hold("the README asks", asked > 0);
        return text.append("return wrong;\n}\n}\n").toString();
    }

    private static void compile(Path out, String program) throws IOException {
        Path source = out.resolve("ReadmeExample.java");
        Files.writeString(source, program, StandardCharsets.UTF_8);
        int answer = ToolProvider.getSystemJavaCompiler().run(null, null, null,
            "-cp", System.getProperty("java.class.path"), "-d", out.toString(), source.toString());
        hold("the README's example compiles", answer == 0);
    }

    private static void run(Path out) throws Exception {
        if (wrong != 0) {
            return;
        }
        try (URLClassLoader loader = new URLClassLoader(new URL[] {out.toUri().toURL()})) {
            wrong += (int) loader.loadClass("ReadmeExample").getMethod("run").invoke(null);
        }
    }

    private static void remove(Path out) throws IOException {
        try (var files = Files.list(out)) {
            for (Path file : files.toList()) {
                Files.delete(file);
            }
        }
        Files.delete(out);
    }

    private static void everyCallIsShown(String code) {
        for (var method : NamedAgain.class.getMethods()) {
            boolean own = method.getDeclaringClass() == NamedAgain.class;
            hold("the README shows " + method.getName(), !own || code.contains("house." + method.getName() + "("));
        }
    }

    private static void everyTestIsNamed(String readme) throws IOException {
        try (var files = Files.list(Path.of("src/test/java"))) {
            for (Path file : files.toList()) {
                String name = file.getFileName().toString().replace(".java", "");
                hold("the README names " + name, readme.contains("`" + name + "`"));
            }
        }
    }
}
