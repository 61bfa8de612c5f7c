import java.io.IOException;
import java.lang.reflect.Constructor;
import java.lang.reflect.Field;
import java.lang.reflect.Method;
import java.lang.reflect.Modifier;
import java.nio.charset.StandardCharsets;
import java.nio.file.Files;
import java.nio.file.Path;
import java.util.ArrayList;
import java.util.Arrays;
import java.util.List;
import java.util.Set;
import java.util.TreeSet;
import java.util.regex.Matcher;
import java.util.regex.Pattern;

/** The rules of LANGUAGE.md that can be seen from the source and from the compiled class. */
public final class LanguageTest {
    private static int wrong = 0;

    private static void must(String what, boolean is) {
        if (!is) {
            wrong++;
            System.out.println("rule broken: " + what);
        }
    }

    private static List<Class<?>> all() {
        List<Class<?>> classes = new ArrayList<>();
        classes.add(TollsForLate.class);
        classes.addAll(Arrays.asList(TollsForLate.class.getDeclaredClasses()));
        return classes;
    }

    /** Rule 1, by the document's own list. */
    private static void face(String document) {
        Set<String> wanted = new TreeSet<>();
        String block = document.substring(document.indexOf("public final class TollsForLate"));
        block = block.substring(block.indexOf('{') + 1, block.indexOf("\n}"));
        for (String line : block.split(";")) {
            if (!line.isBlank()) {
                wanted.add(line.strip().replaceAll("(int|boolean) \\w+([,)])", "$1$2")
                        .replaceAll(" = .*", ""));
            }
        }
        Set<String> found = new TreeSet<>();
        Class<?> c = TollsForLate.class;
        for (Constructor<?> k : c.getDeclaredConstructors()) {
            found.add("public TollsForLate(" + types(k.getParameterTypes()) + ")");
            must("public constructor", Modifier.isPublic(k.getModifiers()));
        }
        for (Method m : c.getDeclaredMethods()) {
            if (Modifier.isPublic(m.getModifiers())) {
                found.add("public " + m.getReturnType() + " " + m.getName() + "("
                        + types(m.getParameterTypes()) + ")");
            } else {
                must("private " + m, Modifier.isPrivate(m.getModifiers()));
            }
        }
        for (Field f : c.getDeclaredFields()) {
            if (Modifier.isPublic(f.getModifiers())) {
                found.add("public static final " + f.getType() + " " + f.getName());
            } else {
                must("private " + f, Modifier.isPrivate(f.getModifiers()));
            }
        }
        must("the face is\n" + wanted + "\nnot\n" + found, wanted.equals(found));
        must("56 methods, a constructor and a constant", wanted.size() == 58);
        must("final", Modifier.isFinal(c.getModifiers()));
    }

    private static String types(Class<?>[] types) {
        List<String> names = new ArrayList<>();
        for (Class<?> t : types) {
            names.add(t.getName());
        }
        return String.join(", ", names);
    }

    /** Rules 1, 2, 3, 5 and 11. */
    private static void members() {
        Set<String> names = new TreeSet<>();
        for (Method m : TollsForLate.class.getDeclaredMethods()) {
            if (Modifier.isPublic(m.getModifiers())) {
                names.add(m.getName());
            }
        }
        must("at most twelve classes", all().size() <= 12);
        for (Class<?> c : all()) {
            int fields = 0;
            for (Field f : c.getDeclaredFields()) {
                boolean isStatic = Modifier.isStatic(f.getModifiers());
                fields += isStatic ? 0 : 1;
                must("final " + f, !isStatic || Modifier.isFinal(f.getModifiers()));
                must("constant " + f, !isStatic || f.getType() == int.class
                        || f.getType() == String.class);
            }
            must("at most twenty fields in " + c, fields <= 20);
            must("static " + c, c == TollsForLate.class || Modifier.isStatic(c.getModifiers()));
            must("nothing inside " + c, c == TollsForLate.class
                    || c.getDeclaredClasses().length == 0);
            for (Method m : c.getDeclaredMethods()) {
                must("at most seven parameters: " + m, m.getParameterCount() <= 7);
                must("another name: " + m, Modifier.isPublic(m.getModifiers())
                        || !names.contains(m.getName()));
            }
        }
    }

    /** Rules 4, 6, 10, 12 and 13, as far as words tell. */
    private static void words(String source) {
        String code = source.replaceAll("(?s)/\\*.*?\\*/", "").replaceAll("//[^\n]*", "");
        String bare = code.replaceAll("\"[^\"]*\"", "\"\"").replaceAll("'(\\\\.|[^'])'", "' '");
        String[] banned = {"throw", "throws", "try", "catch", "synchronized", "assert", "import",
            "package", "instanceof", "equals", "hashCode", "toString", "var", "double", "float",
            "Object", "volatile", "native", "protected", "goto"};
        for (String word : banned) {
            must("no " + word, !Pattern.compile("\\b" + word + "\\b").matcher(bare).find());
        }
        for (String sign : new String[] {"->", "::", "@", "\"\" +", "+ \"\"", "static {"}) {
            must("no " + sign, !bare.contains(sign));
        }
        Matcher calls = Pattern.compile("\\b(Math|Integer|Long|System|String|WORDS|SIGNS)\\.(\\w+)")
                .matcher(bare);
        Set<String> library = Set.of("Math.max", "Math.min", "Integer.bitCount", "System.arraycopy",
                "WORDS.length", "WORDS.charAt", "SIGNS.indexOf");
        while (calls.find()) {
            must("of the library " + calls.group(), library.contains(calls.group()));
        }
        for (char c : source.toCharArray()) {
            must("signs 1 to 127", c >= 1 && c <= 127);
        }
        must("one while at most with a counter",
                !Pattern.compile("while \\((true|1)").matcher(bare).find());
    }

    /** Rule 11: methods of at most sixty lines. */
    private static void lengths(String source) {
        String[] lines = source.split("\n");
        int from = -1;
        String indent = "";
        for (int i = 0; i < lines.length; i++) {
            Matcher head = Pattern.compile("^( {4}| {8})\\w[^;=]*\\) \\{$").matcher(lines[i]);
            if (head.find()) {
                from = i;
                indent = head.group(1);
            } else if (from >= 0 && lines[i].equals(indent + "}")) {
                must("a short method at line " + (from + 1), i - from <= 60);
                from = -1;
            }
        }
    }

    public static void main(String[] args) throws IOException {
        String source = Files.readString(Path.of("src/main/java/TollsForLate.java"),
                StandardCharsets.ISO_8859_1);
        String document = Files.readString(Path.of("../shared/DOC.md"), StandardCharsets.UTF_8);
        face(document);
        members();
        words(source);
        lengths(source);
        System.out.println(wrong == 0 ? "the rules are kept" : wrong + " rules are broken");
        if (wrong != 0) {
            System.exit(1);
        }
    }
}
