import java.io.IOException;
import java.lang.reflect.Array;
import java.lang.reflect.Constructor;
import java.lang.reflect.Field;
import java.lang.reflect.Method;
import java.lang.reflect.Modifier;
import java.nio.charset.StandardCharsets;
import java.nio.file.Files;
import java.nio.file.Path;
import java.util.ArrayList;
import java.util.Arrays;
import java.util.Collections;
import java.util.IdentityHashMap;
import java.util.List;
import java.util.Map;
import java.util.Objects;
import java.util.Set;
import java.util.TreeMap;
import java.util.TreeSet;
import java.util.regex.Matcher;
import java.util.regex.Pattern;

/** Rules of LANGUAGE.md that can be seen in the program's text or by reflection. */
public final class LanguageTest {
    private static final Set<String> FACE = new TreeSet<>(Arrays.asList(
        "int file(int)", "boolean sex(int,int,int)", "boolean age(int,int,int,int)",
        "boolean tooth(int,int,int,int)", "boolean mark(int,int,int,int)", "boolean tissue(int,int,int,int,int)",
        "boolean pieces(int,int)", "int unfit(int,int)", "boolean join(int,int)", "int body(int)",
        "int told(int,int)", "int shut(int,int)", "int points(int,int)", "int pairing(int)", "int margin(int)",
        "int seal(int,int,int)", "int give(int)", "int named(int,int)", "boolean unname(int)",
        "int feed(int,int,int,int,int)", "int law(int)", "int fault()", "int count(int)"));

    private static int wrong = 0;

    public static void main(String[] args) throws IOException, IllegalAccessException {
        String source = Files.readString(Path.of("src/main/java/NamedAgain.java"), StandardCharsets.UTF_8);
        face();
        nested();
        words(withoutComments(source));
        Map<String, String> bodies = bodiesOf(withoutComments(source));
        methods(bodies);
        onlyConstructorsMake(bodies);
        callsAreShallow(bodies);
        room();
        System.out.println(wrong == 0 ? "the language is kept" : wrong + " faults of language");
        if (wrong != 0) {
            System.exit(1);
        }
    }

    private static void hold(String what, boolean holds) {
        if (!holds) {
            wrong++;
            System.out.println("not so: " + what);
        }
    }

    private static void face() {
        Set<String> open = new TreeSet<>();
        for (Method method : NamedAgain.class.getDeclaredMethods()) {
            if (!Modifier.isPrivate(method.getModifiers())) {
                String parameters = Arrays.toString(method.getParameterTypes()).replaceAll("[\\[\\] ]", "");
                open.add(method.getReturnType() + " " + method.getName() + "(" + parameters + ")");
            }
        }
        hold("rule 1: the methods are " + FACE + ", not " + open, open.equals(FACE));
        for (Field field : NamedAgain.class.getDeclaredFields()) {
            boolean hidden = Modifier.isPrivate(field.getModifiers());
            hold("rule 1: " + field.getName() + " is private", hidden || field.getName().equals("NONE"));
        }
        Constructor<?>[] made = NamedAgain.class.getDeclaredConstructors();
        hold("rule 1: one public constructor", made.length == 1 && Modifier.isPublic(made[0].getModifiers()));
        hold("rule 1: the class is final", Modifier.isFinal(NamedAgain.class.getModifiers()));
    }

    private static void nested() {
        Set<String> names = new TreeSet<>();
        for (String method : FACE) {
            names.add(method.substring(method.indexOf(' ') + 1, method.indexOf('(')));
        }
        Class<?>[] classes = NamedAgain.class.getDeclaredClasses();
        hold("rule 11: at most twelve classes", classes.length + 1 <= 12);
        for (Class<?> c : classes) {
            hold("rule 2: " + c.getName() + " is static", Modifier.isStatic(c.getModifiers()));
            for (Method method : c.getDeclaredMethods()) {
                hold("rule 1: " + c.getName() + "." + method.getName() + " bears another name than the face's",
                    !names.contains(method.getName()));
                hold("rule 11: " + method.getName() + " has at most seven parameters", method.getParameterCount() <= 7);
            }
            long fields = Arrays.stream(c.getDeclaredFields()).filter(f -> !Modifier.isStatic(f.getModifiers())).count();
            hold("rule 11: " + c.getName() + " has at most twenty fields", fields <= 20);
            for (Field field : c.getDeclaredFields()) {
                boolean changes = Modifier.isStatic(field.getModifiers()) && !Modifier.isFinal(field.getModifiers());
                hold("rule 5: " + field.getName() + " is no static state", !changes);
            }
        }
    }

    private static String withoutComments(String source) {
        return source.replaceAll("(?s)/\\*.*?\\*/", "").replaceAll("//[^\n]*", "");
    }

    private static void words(String code) {
        List<String> forbidden = List.of("throw", "throws", "try", "catch", "finally", "synchronized", "assert", "import",
            "package", "System", "Object", "Thread", "Exact", "MAX_VALUE", "MIN_VALUE", "protected", "hashCode",
            "toString", "var", "->", "::");
        for (String word : forbidden) {
            boolean letters = Character.isLetter(word.charAt(0));
            String pattern = letters ? "\\b" + word + "\\b" : Pattern.quote(word);
            hold("no '" + word + "' in the program", !Pattern.compile(pattern).matcher(code).find());
        }
        for (int i = 0; i < code.length(); i++) {
            if (code.charAt(i) > 127) {
                hold("rule 4: signs up to 127", false);
                return;
            }
        }
        Matcher library = Pattern.compile("\\b(Math|Integer|Long|Arrays)\\.(\\w+)").matcher(code);
        while (library.find()) {
            hold("rule 4: " + library.group(), library.group().matches("Math\\.(min|max)"));
        }
    }

    /** The text of each method by "Class.name", constructors too; of two that are called alike, both texts. */
    private static Map<String, String> bodiesOf(String code) {
        Map<String, String> bodies = new TreeMap<>();
        String owner = "NamedAgain";
        String name = null;
        String end = "";
        StringBuilder body = new StringBuilder();
        for (String line : code.split("\n")) {
            Matcher type = Pattern.compile("    private static final class (\\w+) \\{").matcher(line);
            Matcher header = Pattern.compile(" {4}( {4})?(?:[a-zA-Z\\[\\]]+ )*(\\w+)\\([^()]*\\) \\{").matcher(line);
            if (type.matches()) {
                owner = type.group(1);
            } else if (name == null && header.matches()) {
                boolean nested = header.group(1) != null;
                name = (nested ? owner : "NamedAgain") + "." + header.group(2);
                end = nested ? "        }" : "    }";
                body.setLength(0);
            } else if (name != null && line.equals(end)) {
                bodies.merge(name, body.toString(), String::concat);
                name = null;
            } else if (name != null) {
                body.append(line).append('\n');
            }
        }
        hold("the methods were found: " + bodies.keySet(), bodies.size() >= FACE.size() + 40 && name == null);
        return bodies;
    }

    private static void methods(Map<String, String> bodies) {
        bodies.forEach((name, body) ->
            hold("rule 11: " + name + " is short", body.chars().filter(sign -> sign == '\n').count() <= 60));
    }

    private static void onlyConstructorsMake(Map<String, String> bodies) {
        bodies.forEach((name, body) -> {
            boolean constructor = name.substring(0, name.indexOf('.')).equals(nameIn(name));
            hold("rule 12: " + name + " makes nothing", constructor || !Pattern.compile("\\bnew\\b").matcher(body).find());
        });
    }

    private static String nameIn(String method) {
        return method.substring(method.indexOf('.') + 1);
    }

    /** Methods called alike count as one another, so a chain found here is never shorter than the true one. */
    private static void callsAreShallow(Map<String, String> bodies) {
        Map<String, Set<String>> calls = new TreeMap<>();
        bodies.forEach((name, body) -> calls.computeIfAbsent(nameIn(name), n -> new TreeSet<>()));
        bodies.forEach((name, body) -> {
            Matcher call = Pattern.compile("(\\w+)\\(").matcher(body);
            while (call.find()) {
                if (calls.containsKey(call.group(1))) {
                    calls.get(nameIn(name)).add(call.group(1));
                }
            }
        });
        for (String name : calls.keySet()) {
            int depth = depthOf(name, calls, 1);
            hold("rules 8 and 11: calls from " + name + " go at most eight deep, not " + depth, depth <= 8);
        }
    }

    /** A chain longer than there are methods comes back to one of them. */
    private static int depthOf(String name, Map<String, Set<String>> calls, int at) {
        int deepest = at;
        for (String next : calls.get(name)) {
            deepest = at > 20 ? at : Math.max(deepest, depthOf(next, calls, at + 1));
        }
        return deepest;
    }

    /** An object with all it holds, before and after calls of every kind: calls must not make it greater. */
    private static void room() throws IllegalAccessException {
        NamedAgain x = new NamedAgain();
        long[] before = sizeOf(x);
        for (int i = 0; i < 12; i++) {
            x.file(0);
            x.file(1);
            x.mark(0, i, i % 4, 1);
            x.mark(1, i, i % 4, 1);
            x.seal(i, i, i % 10);
            x.give(i);
            x.feed(0x6e656564, 0x20313b20, 0x73656120, 0x20202020, 0x20202020);
            x.law(i % 2 == 0 ? 7 : 20);
            x.join(i, i / 2);
            x.margin(i);
        }
        long[] after = sizeOf(x);
        hold("an object is at most 300 objects and arrays, not " + after[0], after[0] <= 300);
        hold("an object has at most 3000 fields and elements, not " + after[1], after[1] <= 3000);
        hold("calls don't make an object greater", after[0] <= before[0] && after[1] <= before[1]);
    }

    /** How many objects and arrays are reached from one, and how many fields and elements they have. */
    private static long[] sizeOf(Object first) throws IllegalAccessException {
        Set<Object> seen = Collections.newSetFromMap(new IdentityHashMap<>());
        List<Object> open = new ArrayList<>(List.of(first));
        long fields = 0;
        while (!open.isEmpty()) {
            Object one = open.remove(open.size() - 1);
            if (!seen.add(one)) {
                continue;
            }
            if (one.getClass().isArray()) {
                fields += Array.getLength(one);
                if (one instanceof Object[] parts) {
                    Arrays.stream(parts).filter(Objects::nonNull).forEach(open::add);
                }
                continue;
            }
            for (Field field : one.getClass().getDeclaredFields()) {
                if (!Modifier.isStatic(field.getModifiers())) {
                    fields++;
                    field.setAccessible(true);
                    if (!field.getType().isPrimitive() && field.get(one) != null) {
                        open.add(field.get(one));
                    }
                }
            }
        }
        return new long[] {seen.size(), fields};
    }
}
