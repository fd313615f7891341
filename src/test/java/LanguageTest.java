import java.io.IOException;
import java.lang.reflect.Constructor;
import java.lang.reflect.Field;
import java.lang.reflect.Method;
import java.lang.reflect.Modifier;
import java.nio.charset.StandardCharsets;
import java.nio.file.Files;
import java.nio.file.Path;
import java.util.Arrays;
import java.util.Set;
import java.util.TreeSet;
import java.util.regex.Matcher;
import java.util.regex.Pattern;
import java.util.stream.Collectors;

/** The face of the document, and what of ../shared/LANGUAGE.md can be seen in the text and the classes. */
public final class LanguageTest {
    private static final Due DUE = new Due("LanguageTest");

    private static String read(String file) throws IOException {
        return new String(Files.readAllBytes(Path.of(file)), StandardCharsets.ISO_8859_1);
    }

    /** The source without comments, texts and signs. */
    private static String bare(String source) {
        return source.replaceAll("(?s)/\\*.*?\\*/", " ").replaceAll("//[^\n]*", " ")
            .replaceAll("\"(\\\\.|[^\"\\\\])*\"", "\"\"").replaceAll("'(\\\\.|[^'\\\\])'", "' '");
    }

    private static Set<String> facePromised() throws IOException {
        Set<String> face = new TreeSet<>();
        Matcher m = Pattern.compile("    public (int|long) (\\w+)\\(([^)]*)\\);").matcher(read("../shared/DOC.md"));
        while (m.find()) {
            String types = m.group(3).isEmpty() ? "" : Arrays.stream(m.group(3).split(", "))
                .map(p -> p.split(" ")[0]).collect(Collectors.joining(","));
            face.add(m.group(1) + " " + m.group(2) + "(" + types + ")");
        }
        return face;
    }

    private static String told(Method m) {
        return m.getReturnType().getName() + " " + m.getName() + "("
            + Arrays.stream(m.getParameterTypes()).map(Class::getName).collect(Collectors.joining(",")) + ")";
    }

    private static void face() throws IOException {
        Set<String> face = new TreeSet<>();
        Set<String> names = new TreeSet<>();
        for (Method m : BustRest.class.getDeclaredMethods()) {
            if (!Modifier.isPrivate(m.getModifiers())) {
                DUE.due("public, no more: " + m, m.getModifiers(), Modifier.PUBLIC);
                face.add(told(m));
                names.add(m.getName());
            }
        }
        Set<String> promised = facePromised();
        DUE.due("41 methods", promised.size(), 41);
        DUE.due("the face " + face, face.equals(promised) ? 1 : 0, 1);
        for (Field f : BustRest.class.getDeclaredFields()) {
            DUE.due("private: " + f, Modifier.isPrivate(f.getModifiers()) ? 1 : 0, 1);
        }
        Constructor<?>[] constructors = BustRest.class.getDeclaredConstructors();
        DUE.due("constructors", constructors.length, 1);
        DUE.due("a public one", constructors[0].getModifiers(), Modifier.PUBLIC);
        DUE.due("a public final class", BustRest.class.getModifiers(), Modifier.PUBLIC | Modifier.FINAL);
        privateNames(BustRest.class, names);
    }

    private static void privateNames(Class<?> type, Set<String> names) {
        for (Method m : type.getDeclaredMethods()) {
            if (Modifier.isPrivate(m.getModifiers())) {
                DUE.due("no name of the face: " + m, names.contains(m.getName()) ? 1 : 0, 0);
            }
            DUE.due("no lambda: " + m, m.isSynthetic() ? 1 : 0, 0);
            DUE.due("seven parameters at most: " + m, m.getParameterCount() <= 7 ? 1 : 0, 1);
        }
        int fields = 0;
        for (Field f : type.getDeclaredFields()) {
            boolean isStatic = Modifier.isStatic(f.getModifiers());
            fields += isStatic ? 0 : 1;
            DUE.due("final: " + f, isStatic && !Modifier.isFinal(f.getModifiers()) ? 1 : 0, 0);
        }
        DUE.due("twenty fields at most: " + type, fields <= 20 ? 1 : 0, 1);
        for (Class<?> inner : type.getDeclaredClasses()) {
            int how = inner.getModifiers();
            DUE.due("static, not public: " + inner,
                Modifier.isStatic(how) && !Modifier.isPublic(how) && !Modifier.isProtected(how) ? 1 : 0, 1);
            privateNames(inner, names);
        }
    }

    private static void words() throws IOException {
        String source = read("src/main/java/BustRest.java");
        String bare = bare(source);
        String[] none = {"\\bthrow", "\\btry\\b", "\\bcatch\\b", "\\bsynchronized\\b", "\\bassert\\b", "->", "::",
            "\\bimport\\b", "\\bpackage\\b", "\\b(hashCode|toString)\\b", "\\bExact\\b", "\\bvar\\b", "\\bnull\\b",
            "\\bThread\\b", "\\bRandom\\b", "\\bRuntime\\b", "\\bSystem\\.(?!arraycopy\\b)", "static \\{",
            "\\bMath\\.(?!min\\b|max\\b)", "\\bInteger\\.(?!bitCount\\b)", "\\binstanceof\\b"};
        for (String word : none) {
            Matcher m = Pattern.compile(word).matcher(bare);
            DUE.due("no " + word, m.find() ? 1 : 0, 0);
        }
        long classes = Pattern.compile("\\bclass \\w").matcher(bare).results().count();
        DUE.due("twelve classes at most", classes <= 12 ? 1 : 0, 1);
        for (int i = 0; i < source.length(); i++) {
            char c = source.charAt(i);
            DUE.due("a plain sign at " + i, c == '\n' || c >= ' ' && c < 127 ? 1 : 0, 1);
        }
    }

    /** Methods are short, and just fields and constructors make objects: no call takes of the room. */
    private static void methods() throws IOException {
        Pattern head = Pattern.compile("( {4}| {8})(public|private) (?:(?!class\\b)[\\w\\[\\]]+ )*\\w+\\(.*\\{");
        Pattern constructor = Pattern.compile(" +(public|private) \\w+\\(.*");
        String end = "";
        String method = "";
        int start = 0;
        int methods = 0;
        String[] lines = bare(read("src/main/java/BustRest.java")).split("\n");
        for (int i = 0; i < lines.length; i++) {
            Matcher m = head.matcher(lines[i]);
            if (m.matches()) {
                end = m.group(1) + "}";
                method = lines[i];
                start = i;
                methods++;
            } else if (!end.isEmpty() && lines[i].equals(end)) {
                DUE.due("sixty lines at most: " + method, i - start < 60 ? 1 : 0, 1);
                end = "";
            } else if (lines[i].matches(".*\\bnew\\b.*")) {
                boolean once = end.isEmpty() || constructor.matcher(method).matches();
                DUE.due("made once: " + lines[i], once ? 1 : 0, 1);
            }
        }
        DUE.due("methods seen", methods > 41 ? 1 : 0, 1);
    }

    public static void main(String[] args) throws IOException {
        face();
        words();
        methods();
        DUE.end();
    }
}
