import java.io.IOException;
import java.lang.reflect.Field;
import java.lang.reflect.Method;
import java.lang.reflect.Modifier;
import java.nio.file.Files;
import java.nio.file.Path;
import java.util.ArrayList;
import java.util.HashSet;
import java.util.List;
import java.util.Set;
import java.util.regex.Matcher;
import java.util.regex.Pattern;

/** The face of the document, and those rules of LANGUAGE.md that can be looked up in the source. */
public final class LanguageTest {
    private static final Check c = new Check();
    private static final Path SOURCE = Path.of("src/main/java/TwoHandles.java");
    private static final Path DOCUMENT = Path.of("../shared/DOC.md");

    private LanguageTest() {
    }

    public static void main(String[] args) throws IOException {
        String source = Files.readString(SOURCE);
        String code = withoutCommentsAndTexts(source);
        face(Files.readString(DOCUMENT), source);
        members();
        words(code);
        methods(code);
        c.end("LanguageTest");
    }

    private static String withoutCommentsAndTexts(String source) {
        return source.replaceAll("(?s)/\\*.*?\\*/", " ").replaceAll("//[^\n]*", " ").replaceAll("\"[^\"\n]*\"", "\"\"");
    }

    private static String inOneLine(String text) {
        return text.replaceAll("\\s+", " ");
    }

    /** Every line of the document's face stands in the source as it is, and nothing else is public. */
    private static void face(String document, String source) {
        String block = document.substring(document.indexOf("```java"), document.indexOf("## Terms"));
        String flat = inOneLine(source);
        int members = 0;
        Matcher m = Pattern.compile("\n    (public [^;]*);").matcher(block);
        while (m.find()) {
            String line = m.group(1);
            String want = line.contains("(") ? line + " {" : line + ";";
            c.holds("1 the source has " + want, flat.contains(inOneLine(want)));
            members++;
        }
        c.due("1 members of the face", members, 43);
        int publics = 0;
        Matcher p = Pattern.compile("\n    public ").matcher(source);
        while (p.find()) {
            publics++;
        }
        c.due("1 public members of the source", publics, members);
        c.holds("1 public and final", Modifier.isFinal(TwoHandles.class.getModifiers()));
    }

    private static void members() {
        Set<String> faceNames = new HashSet<>();
        for (Method m : TwoHandles.class.getDeclaredMethods()) {
            if (Modifier.isPublic(m.getModifiers())) {
                faceNames.add(m.getName());
            }
        }
        List<Class<?>> classes = new ArrayList<>(List.of(TwoHandles.class.getDeclaredClasses()));
        c.holds("11 some twelve classes", classes.size() + 1 <= 12);
        for (Class<?> k : classes) {
            c.holds("1 static: " + k, Modifier.isStatic(k.getModifiers()));
            c.holds("1 private: " + k, Modifier.isPrivate(k.getModifiers()));
        }
        classes.add(TwoHandles.class);
        for (Class<?> k : classes) {
            methodsOf(k, faceNames);
            fieldsOf(k);
        }
    }

    private static void methodsOf(Class<?> k, Set<String> faceNames) {
        for (Method m : k.getDeclaredMethods()) {
            boolean ofFace = k == TwoHandles.class && Modifier.isPublic(m.getModifiers());
            c.holds("1 private: " + m, ofFace || Modifier.isPrivate(m.getModifiers()));
            c.holds("1 no name of the face: " + m, ofFace || !faceNames.contains(m.getName()));
            c.holds("11 seven parameters: " + m, m.getParameterCount() <= 7);
        }
    }

    private static void fieldsOf(Class<?> k) {
        int fields = 0;
        for (Field f : k.getDeclaredFields()) {
            boolean shared = Modifier.isStatic(f.getModifiers());
            fields += shared ? 0 : 1;
            c.holds("5 static fields are constants: " + f,
                    !shared || Modifier.isFinal(f.getModifiers()) && f.getType() == int.class);
            c.holds("1 no field to be seen: " + f, Modifier.isPrivate(f.getModifiers()) || f.getName().equals("NONE"));
        }
        c.holds("11 some twenty fields: " + k, fields <= 20);
    }

    private static void words(String code) {
        Matcher imports = Pattern.compile("import ([^;]*);").matcher(code);
        Set<String> allowed = Set.of("java.util.Arrays", "java.util.ArrayList", "java.util.List", "java.util.NoSuchElementException");
        while (imports.find()) {
            c.holds("4 import " + imports.group(1), allowed.contains(imports.group(1)));
        }
        c.holds("no package line", !Pattern.compile("^\\s*package ", Pattern.MULTILINE).matcher(code).find());
        String[] forbidden = {"->", "::", "\\btry\\b", "\\bcatch\\b", "\\bfinally\\b", "\\bsynchronized\\b", "\\bassert\\b",
            "\\bstatic \\{", "\\bSystem\\.(?!arraycopy)", "\\bThread\\b", "\\bObject\\b", "\\bdouble\\b", "\\bfloat\\b",
            "Exact\\(", "getMessage", "hashCode", "\\.equals\\(", "toString", "\\bprotected\\b", "\\brecord\\b", "\\bInteger\\s+\\w+\\s*[=;]"};
        for (String word : forbidden) {
            c.holds("none of " + word, !Pattern.compile(word).matcher(code).find());
        }
        Matcher library = Pattern.compile("\\b(Arrays|Math|Integer|System)\\.(\\w+)").matcher(code);
        Set<String> known = Set.of("Arrays.fill", "System.arraycopy", "Math.abs", "Math.max", "Math.min", "Integer.bitCount",
                "Integer.compare", "Integer.numberOfTrailingZeros");
        while (library.find()) {
            c.holds("4 " + library.group(), known.contains(library.group()));
        }
        Matcher thrown = Pattern.compile("throw new (\\w+)\\(").matcher(code);
        Set<String> exceptions = Set.of("IllegalStateException", "IllegalArgumentException", "IndexOutOfBoundsException",
                "NoSuchElementException");
        while (thrown.find()) {
            c.holds("6 " + thrown.group(), exceptions.contains(thrown.group(1)));
        }
    }

    /** Counts the lines of each method by its braces. */
    private static void methods(String code) {
        String[] lines = code.split("\n");
        Pattern head = Pattern.compile("^( {4}| {8})(public|private)\\b[^=;]*\\([^;]*$");
        for (int i = 0; i < lines.length; i++) {
            Matcher m = head.matcher(lines[i]);
            if (!m.find() || lines[i].contains(" class ")) {
                continue;
            }
            int end = i;
            while (end < lines.length && !lines[end].startsWith(m.group(1) + "}")) {
                end++;
            }
            c.holds("11 some sixty lines: " + lines[i].strip(), end - i <= 60);
        }
    }
}
