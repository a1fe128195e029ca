import java.io.IOException;
import java.io.InputStream;
import java.lang.reflect.Field;
import java.lang.reflect.Member;
import java.lang.reflect.Method;
import java.lang.reflect.Modifier;
import java.nio.charset.StandardCharsets;
import java.nio.file.Files;
import java.nio.file.Path;
import java.util.ArrayList;
import java.util.Arrays;
import java.util.List;
import java.util.Set;
import java.util.TreeSet;
import java.util.regex.MatchResult;
import java.util.regex.Matcher;
import java.util.regex.Pattern;
import java.util.stream.Collectors;

/** The face of the class is the document's, and its source keeps to the rules of LANGUAGE.md that can be looked up. */
public final class FaceTest {
    private static final Path SOURCE = Path.of("src/main/java/BeachIsRelaid.java");
    private static final Path DOCUMENT = Path.of("../shared/DOC.md");
    private static int wrong = 0;

    private static void due(String what, Object got, Object want) {
        if (!got.equals(want)) {
            wrong++;
            System.out.println(what + ": " + got + ", due is " + want);
        }
    }

    public static void main(String[] args) throws Exception {
        constants();
        face();
        insideClasses();
        library();
        headings();
        source();
        System.out.println(wrong == 0 ? "the face and the source are as due" : wrong + " things are not as due");
        if (wrong != 0) {
            System.exit(1);
        }
    }

    private static void constants() throws Exception {
        due("NONE", BeachIsRelaid.NONE, -1);
        due("BAD", BeachIsRelaid.BAD, -2);
        due("STATE", BeachIsRelaid.STATE, -3);
        due("FULL", BeachIsRelaid.FULL, -4);
        due("NO", BeachIsRelaid.NO, -4611686018427387904L);
    }

    private static Set<String> documented() throws IOException {
        Set<String> face = new TreeSet<>();
        Matcher m = Pattern.compile("^    public (int|long) (\\w+)\\((.*)\\);$", Pattern.MULTILINE)
            .matcher(Files.readString(DOCUMENT));
        while (m.find()) {
            String types = m.group(3).isEmpty() ? "" : Arrays.stream(m.group(3).split(", "))
                .map(p -> p.split(" ")[0]).collect(Collectors.joining(","));
            face.add(m.group(1) + " " + m.group(2) + "(" + types + ")");
        }
        return face;
    }

    private static void face() throws IOException {
        Class<?> c = BeachIsRelaid.class;
        due("public and final", Modifier.toString(c.getModifiers()), "public final");
        Set<String> methods = new TreeSet<>();
        Set<String> hidden = new TreeSet<>();
        for (Method m : c.getDeclaredMethods()) {
            if (Modifier.isPrivate(m.getModifiers())) {
                hidden.add(m.getName());
            } else {
                methods.add(m.getReturnType() + " " + m.getName() + "("
                    + Arrays.stream(m.getParameterTypes()).map(Class::getName).collect(Collectors.joining(",")) + ")");
            }
        }
        due("promised methods", methods, documented());
        due("number of methods", methods.size(), 30);
        Set<String> both = methods.stream().map(s -> s.replaceAll(".* |\\(.*", "")).collect(Collectors.toSet());
        for (Class<?> inside : c.getDeclaredClasses()) {
            Arrays.stream(inside.getDeclaredMethods()).forEach(m -> hidden.add(m.getName()));
        }
        both.retainAll(hidden);
        due("private methods with a public name", both, Set.of());
        due("constructors", c.getDeclaredConstructors().length, 1);
        Set<String> fields = new TreeSet<>();
        for (Field f : c.getDeclaredFields()) {
            if (!Modifier.isPrivate(f.getModifiers())) {
                fields.add(Modifier.toString(f.getModifiers()) + " " + f.getName());
            }
        }
        String constant = "public static final ";
        due("constants", fields, Set.of(constant + "NONE", constant + "BAD", constant + "STATE", constant + "FULL",
            constant + "NO"));
    }

    private static void insideClasses() {
        Class<?>[] inside = BeachIsRelaid.class.getDeclaredClasses();
        due("at most twelve classes", inside.length < 12, true);
        for (Class<?> c : inside) {
            int m = c.getModifiers();
            due(c + " is static", Modifier.isStatic(m), true);
            due(c + " is hidden", Modifier.isPublic(m) || Modifier.isProtected(m), false);
            fewFields(c);
        }
        fewFields(BeachIsRelaid.class);
    }

    private static void fewFields(Class<?> c) {
        long many = Arrays.stream(c.getDeclaredFields()).map(Member::getModifiers).filter(m -> !Modifier.isStatic(m)).count();
        due(c + " has at most twenty fields", many <= 20, true);
        for (Field f : c.getDeclaredFields()) {
            due(f + " is no static state", Modifier.isStatic(f.getModifiers()) && !Modifier.isFinal(f.getModifiers()), false);
        }
        for (Method m : c.getDeclaredMethods()) {
            due(m + " has at most seven parameters", m.getParameterCount() <= 7, true);
        }
    }

    /** All that the compiled classes name of Java's own library. */
    private static void library() throws IOException {
        Set<String> named = new TreeSet<>();
        List<Class<?>> all = new ArrayList<>(List.of(BeachIsRelaid.class.getDeclaredClasses()));
        all.add(BeachIsRelaid.class);
        for (Class<?> c : all) {
            try (InputStream code = c.getResourceAsStream(c.getName() + ".class")) {
                Matcher m = Pattern.compile("javax?/[\\w/$]+").matcher(new String(code.readAllBytes(), StandardCharsets.ISO_8859_1));
                while (m.find()) {
                    named.add(m.group());
                }
            }
        }
        named.removeAll(Set.of("java/lang/Object", "java/lang/String", "java/lang/Integer", "java/lang/Long", "java/lang/Math",
            "java/lang/System"));
        due("other classes of the library", named, Set.of());
    }

    /** What the interface says ahead of its calls, and that they stand there, in their order. */
    private static void headings() throws IOException {
        StringBuilder want = new StringBuilder();
        Matcher m = Pattern.compile("^Ahead of the calls (.*) the interface says: (---- .*)\\.$", Pattern.MULTILINE)
            .matcher(Files.readString(DOCUMENT));
        while (m.find()) {
            want.append(m.group(2)).append(": ").append(m.group(1).replaceAll("[`,]", "")).append('\n');
        }
        StringBuilder got = new StringBuilder();
        m = Pattern.compile("^    (?:// (---- .*)|public (?:int|long) (\\w+)\\(.*)$", Pattern.MULTILINE)
            .matcher(Files.readString(SOURCE));
        while (m.find()) {
            got.append(m.group(1) == null ? " " + m.group(2) : (got.length() == 0 ? "" : "\n") + m.group(1) + ":");
        }
        due("six headings", want.toString().lines().count(), 6L);
        due("the headings and their calls", got.append('\n').toString(), want.toString());
    }

    private static void source() throws IOException {
        String text = Files.readString(SOURCE);
        due("signs 10, 32 to 126 alone", text.chars().allMatch(c -> c == 10 || c >= 32 && c < 127), true);
        String code = text.replaceAll("//[^\n]*", "").replaceAll("(?s)/\\*.*?\\*/", "")
            .replaceAll("\"[^\"\n]*\"", "\"\"").replaceAll("'[^'\n]*'", "' '");
        List<String> banned = List.of("throw", "throws", "try", "catch", "synchronized", "assert", "package", "import",
            "instanceof", "equals", "hashCode", "toString", "protected", "volatile", "transient", "native", "strictfp",
            "var", "Object", "Thread", "Random", "float", "double");
        for (String word : banned) {
            due("the word " + word, Pattern.compile("\\b" + word + "\\b").matcher(code).find(), false);
        }
        due("lambdas", code.contains("->"), false);
        due("method references", code.contains("::"), false);
        Set<String> calls = Pattern.compile("\\b(Math|Integer|Long|System|String|Object)\\.\\w+").matcher(code).results()
            .map(MatchResult::group).collect(Collectors.toCollection(TreeSet::new));
        calls.removeAll(Set.of("Math.min", "Math.max", "Math.abs", "Integer.bitCount", "Long.bitCount", "System.arraycopy"));
        due("other calls of the library", calls, Set.of());
        due("loops by while", Pattern.compile("\\bwhile\\b").matcher(code).find(), false);
        int lines = 0;
        for (String line : text.split("\n")) {
            lines++;
            if (line.matches("(    |        )}")) {
                lines = 0;
            }
            due("a method of sixty lines: " + line, lines <= 62, true);
        }
    }
}
