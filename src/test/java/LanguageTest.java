import java.io.IOException;
import java.lang.reflect.Constructor;
import java.lang.reflect.Field;
import java.lang.reflect.Method;
import java.lang.reflect.Modifier;
import java.nio.charset.StandardCharsets;
import java.nio.file.Files;
import java.nio.file.Path;
import java.util.Arrays;
import java.util.List;
import java.util.Set;
import java.util.TreeSet;
import java.util.regex.Matcher;
import java.util.regex.Pattern;

/** Rules of LANGUAGE.md that can be seen in the program's text or by reflection. */
public final class LanguageTest {
    private static final Set<String> FACE = new TreeSet<>(Arrays.asList(
        "int file(int)", "boolean sex(int,int,int)", "boolean age(int,int,int,int)",
        "boolean tooth(int,int,int,int)", "boolean mark(int,int,int,int)", "boolean tissue(int,int,int,int,int)",
        "boolean pieces(int,int)", "int unfit(int,int)", "boolean join(int,int)", "int body(int)",
        "int told(int,int)", "int shut(int,int)", "int points(int,int)", "int pairing(int)", "int margin(int)",
        "int seal(int,int,int)", "int give(int)", "int named(int,int)", "boolean unname(int)",
        "int feed(int,int,int,int,int)", "int law(int)", "int fault()", "int count(int)"));

    private static int wrong = 0;

    public static void main(String[] args) throws IOException {
        String source = Files.readString(Path.of("src/main/java/NamedAgain.java"), StandardCharsets.UTF_8);
        face();
        nested();
        words(withoutComments(source));
        methods(withoutComments(source));
        System.out.println(wrong == 0 ? "the language is kept" : wrong + " faults of language");
        if (wrong != 0) {
            System.exit(1);
        }
    }

    private static void hold(String what, boolean holds) {
        if (!holds) {
            wrong++;
            System.out.println("not so: " + what);
        }
    }

    private static void face() {
        Set<String> open = new TreeSet<>();
        for (Method method : NamedAgain.class.getDeclaredMethods()) {
            if (!Modifier.isPrivate(method.getModifiers())) {
                String parameters = Arrays.toString(method.getParameterTypes()).replaceAll("[\\[\\] ]", "");
                open.add(method.getReturnType() + " " + method.getName() + "(" + parameters + ")");
            }
        }
        hold("rule 1: the methods are " + FACE + ", not " + open, open.equals(FACE));
        for (Field field : NamedAgain.class.getDeclaredFields()) {
            boolean hidden = Modifier.isPrivate(field.getModifiers());
            hold("rule 1: " + field.getName() + " is private", hidden || field.getName().equals("NONE"));
        }
        Constructor<?>[] made = NamedAgain.class.getDeclaredConstructors();
        hold("rule 1: one public constructor", made.length == 1 && Modifier.isPublic(made[0].getModifiers()));
        hold("rule 1: the class is final", Modifier.isFinal(NamedAgain.class.getModifiers()));
    }

    private static void nested() {
        Set<String> names = new TreeSet<>();
        for (String method : FACE) {
            names.add(method.substring(method.indexOf(' ') + 1, method.indexOf('(')));
        }
        Class<?>[] classes = NamedAgain.class.getDeclaredClasses();
        hold("rule 11: at most twelve classes", classes.length + 1 <= 12);
        for (Class<?> c : classes) {
            hold("rule 2: " + c.getName() + " is static", Modifier.isStatic(c.getModifiers()));
            for (Method method : c.getDeclaredMethods()) {
                hold("rule 1: " + c.getName() + "." + method.getName() + " bears another name than the face's",
                    !names.contains(method.getName()));
                hold("rule 11: " + method.getName() + " has at most seven parameters", method.getParameterCount() <= 7);
            }
            for (Field field : c.getDeclaredFields()) {
                boolean changes = Modifier.isStatic(field.getModifiers()) && !Modifier.isFinal(field.getModifiers());
                hold("rule 5: " + field.getName() + " is no static state", !changes);
            }
        }
    }

    private static String withoutComments(String source) {
        return source.replaceAll("(?s)/\\*.*?\\*/", "").replaceAll("//[^\n]*", "");
    }

    private static void words(String code) {
        List<String> forbidden = List.of("throw", "throws", "try", "catch", "finally", "synchronized", "assert", "import",
            "package", "System", "Object", "Thread", "Exact", "MAX_VALUE", "MIN_VALUE", "protected", "hashCode",
            "toString", "var", "->", "::");
        for (String word : forbidden) {
            boolean letters = Character.isLetter(word.charAt(0));
            String pattern = letters ? "\\b" + word + "\\b" : Pattern.quote(word);
            hold("no '" + word + "' in the program", !Pattern.compile(pattern).matcher(code).find());
        }
        for (int i = 0; i < code.length(); i++) {
            if (code.charAt(i) > 127) {
                hold("rule 4: signs up to 127", false);
                return;
            }
        }
        Matcher library = Pattern.compile("\\b(Math|Integer|Long|Arrays)\\.(\\w+)").matcher(code);
        while (library.find()) {
            hold("rule 4: " + library.group(), library.group().matches("Math\\.(min|max)"));
        }
    }

    private static void methods(String code) {
        String[] lines = code.split("\n");
        int start = 0;
        for (int i = 0; i < lines.length; i++) {
            if (lines[i].matches(" {4}( {4})?[a-zA-Z].*\\) \\{")) {
                start = i;
            }
            if (lines[i].matches(" {4}( {4})?\\}")) {
                hold("rule 11: the method at line " + start + " is short", start == 0 || i - start <= 60);
                start = 0;
            }
        }
    }
}
