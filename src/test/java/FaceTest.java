import java.lang.reflect.Constructor;
import java.lang.reflect.Field;
import java.lang.reflect.Method;
import java.lang.reflect.Modifier;
import java.nio.file.Files;
import java.nio.file.Path;
import java.util.ArrayList;
import java.util.Arrays;
import java.util.List;
import java.util.TreeSet;
import java.util.regex.Matcher;
import java.util.regex.Pattern;

/** The public face is the document's, and the source keeps to what LANGUAGE.md leaves of Java. */
public final class FaceTest {
    private static final Path DOCUMENT = Path.of("../shared/DOC.md");
    private static final Path SOURCE = Path.of("src/main/java/HornRuleWorkbench.java");
    private static final String[] FORBIDDEN = {"throw", "throws", "try", "catch", "synchronized", "assert",
        "->", "::", "import java", "package ", "Exact", "Arrays.", "protected", "hashCode", "toString"};

    public static void main(String[] args) throws Exception {
        face();
        constants();
        privateMembers();
        names();
        limits();
        source();
        methodLengths();
        objectsAreMadeAtFirst();
        Due.end();
    }

    private static void dueNone(String what, Iterable<String> found) {
        for (String one : found) {
            Due.due(what + ": " + one, 1, 0);
        }
        Due.due(what, 0, 0);
    }

    /** Compares the declarations of the document's face with those of the class. */
    private static void face() throws Exception {
        String document = Files.readString(DOCUMENT);
        int start = document.indexOf("```java");
        String block = document.substring(start, document.indexOf("```", start + 3));
        TreeSet<String> want = new TreeSet<>();
        Matcher method = Pattern.compile("public (int|long) (\\w+)\\(([^)]*)\\);").matcher(block);
        while (method.find()) {
            String types = method.group(3).replaceAll(" \\w+(,|$)", "$1");
            want.add(method.group(1) + " " + method.group(2) + "(" + types + ")");
        }
        TreeSet<String> got = new TreeSet<>();
        for (Method found : HornRuleWorkbench.class.getDeclaredMethods()) {
            if (!Modifier.isPrivate(found.getModifiers())) {
                List<String> types = Arrays.stream(found.getParameterTypes()).map(Class::getName).toList();
                got.add(found.getReturnType() + " " + found.getName() + "(" + String.join(", ", types) + ")");
                Due.due(found.getName() + " is public alone", found.getModifiers(), Modifier.PUBLIC);
            }
        }
        Due.due("methods of the face", want.size(), 72);
        TreeSet<String> missing = new TreeSet<>(want);
        missing.removeAll(got);
        got.removeAll(want);
        dueNone("missing method", missing);
        dueNone("method that the document does not have", got);
    }

    private static void constants() throws Exception {
        String[] names = {"BAD_SET", "NONE", "FULL", "EMPTY", "BAD_ARGUMENT", "OVERFLOW", "MISSING_BUFFER",
            "TYPE_MISMATCH", "OUT_OF_BOUNDS", "NEGATIVE_SIZE", "NO_VALUE"};
        long[] values = {-1, -2, -3, -4, -5, -6, -11, -12, -13, -14, Long.MIN_VALUE};
        int count = 0;
        for (Field field : HornRuleWorkbench.class.getDeclaredFields()) {
            int position = Arrays.asList(names).indexOf(field.getName());
            if (position >= 0) {
                int modifiers = Modifier.PUBLIC | Modifier.STATIC | Modifier.FINAL;
                Due.due(field.getName() + "'s modifiers", field.getModifiers(), modifiers);
                Due.due(field.getName(), field.getLong(null), values[position]);
                boolean isLong = field.getType() == long.class;
                Due.due(field.getName() + " is long", isLong ? 1 : 0, position == 10 ? 1 : 0);
                count++;
            } else {
                Due.due(field.getName() + " is private", Modifier.isPrivate(field.getModifiers()) ? 1 : 0, 1);
            }
        }
        Due.due("constants", count, names.length);
    }

    private static void privateMembers() {
        Class<?> face = HornRuleWorkbench.class;
        Due.due("public and final", face.getModifiers(), Modifier.PUBLIC | Modifier.FINAL);
        Constructor<?>[] constructors = face.getDeclaredConstructors();
        Due.due("constructors", constructors.length, 1);
        Due.due("the constructor's modifiers", constructors[0].getModifiers(), Modifier.PUBLIC);
        Due.due("its parameters", constructors[0].getParameterCount(), 0);
        Due.due("at most twelve classes", face.getDeclaredClasses().length < 12 ? 1 : 0, 1);
        for (Class<?> inside : face.getDeclaredClasses()) {
            Due.due(inside + " is static", inside.getModifiers() & Modifier.STATIC, Modifier.STATIC);
            Due.due(inside + " is not public", inside.getModifiers() & Modifier.PUBLIC, 0);
        }
    }

    /** No method but the public ones bears the name of a public one. */
    private static void names() {
        List<String> open = new ArrayList<>();
        List<String> hidden = new ArrayList<>();
        for (Method method : HornRuleWorkbench.class.getDeclaredMethods()) {
            (Modifier.isPublic(method.getModifiers()) ? open : hidden).add(method.getName());
        }
        for (Class<?> inside : HornRuleWorkbench.class.getDeclaredClasses()) {
            for (Method method : inside.getDeclaredMethods()) {
                hidden.add(method.getName());
            }
        }
        hidden.retainAll(open);
        dueNone("a hidden method with a public name", hidden);
    }

    /** Rules 5 and 11: no static state, few parameters and fields. */
    private static void limits() {
        List<Class<?>> classes = new ArrayList<>(List.of(HornRuleWorkbench.class.getDeclaredClasses()));
        classes.add(HornRuleWorkbench.class);
        for (Class<?> one : classes) {
            int fields = 0;
            for (Field field : one.getDeclaredFields()) {
                if (!Modifier.isStatic(field.getModifiers())) {
                    fields++;
                } else {
                    boolean constant = Modifier.isFinal(field.getModifiers()) && field.getType().isPrimitive();
                    Due.due(field + " is a constant", constant ? 1 : 0, 1);
                }
            }
            Due.due(one + " has at most twenty fields", fields <= 20 ? 1 : 0, 1);
            for (Method method : one.getDeclaredMethods()) {
                Due.due(method + " has at most seven parameters", method.getParameterCount() <= 7 ? 1 : 0, 1);
            }
        }
    }

    /** Rule 11: a method has some sixty lines at most; it ends where its own indent comes again. */
    private static void methodLengths() throws Exception {
        List<String> lines = Files.readAllLines(SOURCE);
        int start = -1;
        String end = "";
        for (int i = 0; i < lines.size(); i++) {
            String line = lines.get(i);
            if (start < 0 && line.matches(" +[\\w\\[\\] ]+\\(.*\\) \\{") && !line.matches(" +(if|for|while).*")) {
                start = i;
                end = line.replaceAll("\\S.*", "") + "}";
            } else if (start >= 0 && line.equals(end)) {
                Due.due(lines.get(start).trim() + " is short", i - start < 60 ? 1 : 0, 1);
                start = -1;
            }
        }
        Due.due("every method has an end", start, -1);
    }

    /** Rule 12: only fields and constructors make objects, so a run makes no more than its workbenches hold. */
    private static void objectsAreMadeAtFirst() throws Exception {
        List<String> inConstructors = List.of("buffers[i] = new Buffer();", "items = new int[Math.max(room, 0)];");
        for (String line : Files.readAllLines(SOURCE)) {
            String code = line.replaceAll("//.*", "").trim();
            if (code.contains("new ") && !code.startsWith("*") && !code.startsWith("/*")) {
                boolean first = code.startsWith("private final ") || inConstructors.contains(code);
                Due.due("no call makes an object: " + code, first ? 1 : 0, 1);
            }
        }
    }

    private static void source() throws Exception {
        String code = Files.readString(SOURCE).replaceAll("(?s)/\\*.*?\\*/", "").replaceAll("//.*", "");
        List<String> found = new ArrayList<>();
        for (String word : FORBIDDEN) {
            String pattern = Character.isLetter(word.charAt(0)) ? "\\b" + word : Pattern.quote(word);
            if (Pattern.compile(pattern).matcher(code).find()) {
                found.add(word);
            }
        }
        dueNone("a word outside LANGUAGE.md", found);
        for (char c : code.toCharArray()) {
            Due.due("a sign from 1 to 127", c >= 1 && c <= 127 ? 1 : 0, 1);
        }
    }
}
