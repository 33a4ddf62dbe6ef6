import java.lang.reflect.Constructor;
import java.lang.reflect.Field;
import java.lang.reflect.Method;
import java.lang.reflect.Modifier;
import java.nio.charset.StandardCharsets;
import java.nio.file.Files;
import java.nio.file.Path;
import java.util.ArrayList;
import java.util.List;
import java.util.Set;
import java.util.TreeSet;
import java.util.regex.Matcher;
import java.util.regex.Pattern;

/** The document's face, and what can be seen of the rules of LANGUAGE.md: by reflection on the class, and in its text. */
public final class LanguageTests {
    private static final List<String> FACE = List.of("feed", "schema", "add", "view", "pipe", "fault", "count", "field",
            "name", "leaf", "entry", "skip", "next", "length", "sign", "reads", "seen", "seenSign", "fold", "picked",
            "pages", "piped", "drop", "set", "damage", "undo", "years", "image", "restore");
    private static int wrong;

    private static void rule(int number, boolean holds, String what) {
        if (!holds) {
            wrong++;
            System.out.println("rule " + number + ": " + what);
        }
    }

    public static void main(String[] args) throws Exception {
        face();
        faceOfTheDocument();
        List<Class<?>> classes = new ArrayList<>();
        collect(LeafStripes.class, classes);
        rule(11, classes.size() <= 12, "classes: " + classes.size());
        for (Class<?> c : classes) {
            membersOf(c);
        }
        String source = Files.readString(Path.of("src/main/java/LeafStripes.java"), StandardCharsets.ISO_8859_1);
        words(source);
        methods(source);
        System.out.println("LanguageTests: " + classes.size() + " classes looked at, " + wrong + " rules broken");
        if (wrong != 0) {
            System.exit(1);
        }
    }

    private static void collect(Class<?> c, List<Class<?>> out) {
        out.add(c);
        for (Class<?> inside : c.getDeclaredClasses()) {
            collect(inside, out);
        }
    }

    private static void face() {
        Class<?> c = LeafStripes.class;
        rule(1, Modifier.isPublic(c.getModifiers()) && Modifier.isFinal(c.getModifiers()), "public and final");
        Set<String> seen = new TreeSet<>();
        for (Method m : c.getDeclaredMethods()) {
            if (!Modifier.isPrivate(m.getModifiers())) {
                rule(1, Modifier.isPublic(m.getModifiers()), "not public: " + m);
                rule(1, seen.add(m.getName()), "twice: " + m);
            }
        }
        rule(1, seen.equals(new TreeSet<>(FACE)), "the face is " + seen);
        for (Field f : c.getDeclaredFields()) {
            rule(1, Modifier.isPrivate(f.getModifiers()) || f.getName().equals("NONE"), "field " + f);
        }
        Constructor<?>[] made = c.getDeclaredConstructors();
        rule(1, made.length == 1 && Modifier.isPublic(made[0].getModifiers()) && made[0].getParameterCount() == 0,
                "one constructor");
        for (Class<?> inside : c.getDeclaredClasses()) {
            rule(1, Modifier.isStatic(inside.getModifiers()) && !Modifier.isPublic(inside.getModifiers()),
                    "class " + inside);
        }
    }

    /** Each constant, constructor and method as the document writes it, what it throws too, and no other. */
    private static void faceOfTheDocument() throws Exception {
        String document = Files.readString(Path.of("../shared/DOC.md"));
        Matcher block = Pattern.compile("(?s)## The public face\\s+```java(.*?)```").matcher(document);
        rule(1, block.find(), "the document tells the face");
        Set<String> told = new TreeSet<>();
        for (String line : block.group(1).split("\n")) {
            if (line.startsWith("    public ")) {
                told.add(line.strip().replaceAll("\\bint \\w+(?=[,)])", "int"));
            }
        }
        rule(1, told.equals(faceOfTheClass()), "the document's face is\n" + told + "\nthe class's is\n" + faceOfTheClass());
    }

    private static Set<String> faceOfTheClass() throws IllegalAccessException {
        Set<String> face = new TreeSet<>();
        for (Field f : LeafStripes.class.getFields()) {
            face.add(Modifier.toString(f.getModifiers()) + " " + f.getType() + " " + f.getName() + " = " + f.get(null) + ";");
        }
        for (Constructor<?> c : LeafStripes.class.getConstructors()) {
            face.add("public LeafStripes(" + names(c.getParameterTypes()) + ");");
        }
        for (Method m : LeafStripes.class.getDeclaredMethods()) {
            if (Modifier.isPublic(m.getModifiers())) {
                String thrown = names(m.getExceptionTypes());
                face.add(Modifier.toString(m.getModifiers()) + " " + m.getReturnType() + " " + m.getName() + "("
                        + names(m.getParameterTypes()) + ")" + (thrown.isEmpty() ? "" : " throws " + thrown) + ";");
            }
        }
        return face;
    }

    private static String names(Class<?>[] types) {
        List<String> names = new ArrayList<>();
        for (Class<?> type : types) {
            names.add(type.getSimpleName());
        }
        return String.join(", ", names);
    }

    private static void membersOf(Class<?> c) {
        int fields = 0;
        for (Field f : c.getDeclaredFields()) {
            if (Modifier.isStatic(f.getModifiers())) {
                rule(5, Modifier.isFinal(f.getModifiers()), "static, not final: " + f);
            } else {
                fields++;
            }
        }
        rule(11, fields <= 20, "fields of " + c + ": " + fields);
        for (Method m : c.getDeclaredMethods()) {
            rule(11, m.getParameterCount() <= 7, "parameters of " + m);
            rule(1, c == LeafStripes.class && Modifier.isPublic(m.getModifiers()) || !FACE.contains(m.getName()),
                    "bears a name of the face: " + m);
            rule(2, !m.isSynthetic(), "synthetic: " + m);
        }
    }

    private static void words(String source) {
        String bare = source.replaceAll("(?s)/\\*.*?\\*/", " ").replaceAll("//[^\n]*", " ");
        for (String line : bare.split("\n")) {
            rule(4, !line.startsWith("import") || line.equals("import java.util.NoSuchElementException;"), line);
        }
        String code = bare.replaceAll("\"[^\"\n]*\"", "\"\"");
        for (String no : List.of("package", "try", "catch", "finally", "synchronized", "assert", "native", "transient",
                "volatile", "strictfp", "System\\.(?!arraycopy)", "Thread", "Random", "Object", "hashCode", "toString",
                "getClass", "while\\s*\\(\\s*true", "for\\s*\\(\\s*;\\s*;", "Exact", "float", "double", "instanceof")) {
            rule(6, !Pattern.compile("\\b" + no + "\\b").matcher(code).find(), "stands there: " + no);
        }
        rule(2, !code.contains("->") && !code.contains("::"), "lambda or method reference");
        rule(10, !Pattern.compile("\"\"\\s*\\+|\\+\\s*\"\"").matcher(code).find(), "texts joined by +");
        Matcher thrown = Pattern.compile("\\bthrow\\b[^;]*;").matcher(code);
        while (thrown.find()) {
            rule(6, thrown.group().matches("throw new (NoSuchElement|IllegalArgument)Exception\\(\"\"\\);"), thrown.group());
        }
        for (int i = 0; i < source.length(); i++) {
            rule(4, source.charAt(i) < 128, "sign " + (int) source.charAt(i));
        }
    }

    /** Methods stay short. */
    private static void methods(String source) {
        String[] lines = source.split("\n");
        for (int i = 0; i < lines.length; i++) {
            if (lines[i].matches(" {4}( {4})?[a-zA-Z][^;=]*\\([^;]*\\{") && !lines[i].contains(" class ")) {
                String indent = lines[i].replaceAll("\\S.*", "");
                int end = i;
                while (end < lines.length && !lines[end].equals(indent + "}")) {
                    end++;
                }
                rule(11, end - i < 60, "long method at line " + (i + 1));
            }
        }
    }
}
