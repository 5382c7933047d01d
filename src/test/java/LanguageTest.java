import java.io.IOException;
import java.lang.reflect.Constructor;
import java.lang.reflect.Field;
import java.lang.reflect.Method;
import java.lang.reflect.Modifier;
import java.nio.file.Files;
import java.nio.file.Path;
import java.util.HashSet;
import java.util.List;
import java.util.Set;
import java.util.TreeSet;
import java.util.regex.Matcher;
import java.util.regex.Pattern;

/** The face of the document, and the rules of LANGUAGE.md that can be seen from outside. Runs in the project's folder. */
public final class LanguageTest {
    private static final Path SOURCE = Path.of("src/main/java/PassedPenance.java");
    private static final Path DOCUMENT = Path.of("../shared/DOC.md");
    private static final String[] RULED_OUT = {"throw", "throws", "try", "catch", "finally", "synchronized", "assert",
        "->", "::", "Exact", "public static void", "hashCode", "Random", "System.nano", "System.current", "Thread",
        "protected", "static {", "new Object", "Object "};

    private static int wrong = 0;

    private static void must(boolean holds, String what) {
        if (!holds) {
            wrong++;
            System.out.println("not so: " + what);
        }
    }

    public static void main(String[] args) throws IOException {
        String source = Files.readString(SOURCE);
        looksAtText(source);
        looksAtMethodLengths(source);
        looksAtFace();
        looksAtClasses();
        System.out.println(wrong + " rules broken");
        if (wrong != 0) {
            System.exit(1);
        }
    }

    private static void looksAtText(String source) {
        String code = source.replaceAll("(?s)/\\*.*?\\*/", "").replaceAll("//[^\n]*", "");
        for (String word : RULED_OUT) {
            boolean isWord = Character.isLetter(word.charAt(0));
            String pattern = isWord ? "\\b" + Pattern.quote(word) : Pattern.quote(word);
            must(!Pattern.compile(pattern + (isWord && !word.contains(" ") && !word.contains(".") ? "\\b" : ""))
                    .matcher(code).find(), "no " + word);
        }
        Matcher imports = Pattern.compile("import ([^;]+);").matcher(code);
        while (imports.find()) {
            must(Set.of("java.util.Arrays", "java.util.ArrayList", "java.util.List").contains(imports.group(1)),
                    "import of " + imports.group(1));
        }
        must(!code.contains("package "), "no package");
        must(!Pattern.compile("\"\\s*\\+|\\+\\s*\"").matcher(code).find(), "texts joined by +");
        must(source.chars().allMatch(c -> c < 128), "signs below 128");
    }

    private static void looksAtMethodLengths(String source) {
        String[] lines = source.split("\n");
        int start = -1;
        String indent = "";
        for (int i = 0; i < lines.length; i++) {
            String line = lines[i];
            Matcher head = Pattern.compile("^( {4}| {8})[a-zA-Z].*\\) \\{$").matcher(line);
            if (start < 0 && head.matches()) {
                start = i;
                indent = head.group(1);
            } else if (start >= 0 && line.equals(indent + "}")) {
                must(i - start < 60, "a short method at line " + (start + 1));
                start = -1;
            }
        }
    }

    private static void looksAtFace() throws IOException {
        String document = Files.readString(DOCUMENT);
        Set<String> due = new TreeSet<>();
        Matcher method = Pattern.compile("    public (int|long) (\\w+)\\(([^)]*)\\);").matcher(document);
        while (method.find()) {
            due.add(method.group(1) + " " + method.group(2) + " " + method.group(3).replaceAll(" \\w+(,|$)", "$1"));
        }
        must(due.size() == 67, "67 methods in the document");
        Set<String> found = new TreeSet<>();
        Set<String> names = new HashSet<>();
        for (Method m : PassedPenance.class.getDeclaredMethods()) {
            if (Modifier.isPublic(m.getModifiers())) {
                StringBuilder kinds = new StringBuilder();
                for (Class<?> kind : m.getParameterTypes()) {
                    kinds.append(kinds.length() == 0 ? "" : ", ").append(kind.getName());
                }
                found.add(m.getReturnType().getName() + " " + m.getName() + " " + kinds);
                names.add(m.getName());
                must(!Modifier.isStatic(m.getModifiers()), m.getName() + " is of the object");
            } else {
                must(Modifier.isPrivate(m.getModifiers()), m.getName() + " is private");
            }
        }
        must(found.equals(due), "the face is the document's: " + found + " for " + due);
        for (Class<?> c : withInner()) {
            for (Method m : c.getDeclaredMethods()) {
                must(Modifier.isPublic(m.getModifiers()) || !names.contains(m.getName()),
                        c.getName() + "." + m.getName() + " bears a name of its own");
            }
        }
        must(Modifier.isFinal(PassedPenance.class.getModifiers()), "the class is final");
        must(PassedPenance.class.getConstructors().length == 1, "one constructor");
        must(PassedPenance.class.getFields().length == 1, "one constant");
    }

    private static List<Class<?>> withInner() {
        List<Class<?>> all = new java.util.ArrayList<>(List.of(PassedPenance.class.getDeclaredClasses()));
        all.add(PassedPenance.class);
        return all;
    }

    private static void looksAtClasses() {
        List<Class<?>> all = withInner();
        must(all.size() <= 12, "at most twelve classes");
        for (Class<?> c : all) {
            int fields = 0;
            for (Field f : c.getDeclaredFields()) {
                boolean isStatic = Modifier.isStatic(f.getModifiers());
                must(!isStatic || Modifier.isFinal(f.getModifiers()), f + " is final");
                fields += isStatic ? 0 : 1;
            }
            must(fields <= 20, c.getName() + " has at most twenty fields");
            for (Method m : c.getDeclaredMethods()) {
                must(m.getParameterCount() <= 7, m + " has at most seven parameters");
            }
            for (Constructor<?> k : c.getDeclaredConstructors()) {
                must(k.getParameterCount() <= 7, k + " has at most seven parameters");
            }
            if (c != PassedPenance.class) {
                must(Modifier.isStatic(c.getModifiers()) && Modifier.isPrivate(c.getModifiers()),
                        c.getName() + " is private and static");
            }
        }
    }
}
