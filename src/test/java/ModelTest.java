import java.lang.reflect.InvocationTargetException;
import java.lang.reflect.Method;
import java.lang.reflect.Modifier;
import java.util.ArrayList;
import java.util.Arrays;
import java.util.Comparator;
import java.util.List;
import java.util.Map;
import java.util.Random;

/** Plays long random runs on the class and on the reference model and compares every answer. */
public final class ModelTest {
    /** What each argument of a method means, a letter each; see argument(). */
    private static final Map<String, String> KINDS = Map.ofEntries(
            Map.entry("reset", "n"), Map.entry("addRule", "ss"), Map.entry("setEnabled", "rf"),
            Map.entry("setRule", "rss"), Map.entry("premise", "r"), Map.entry("conclusion", "r"),
            Map.entry("isEnabled", "r"), Map.entry("closure", "s"), Map.entry("isClosed", "s"),
            Map.entry("entails", "ss"), Map.entry("firingCount", "s"), Map.entry("firedRule", "sr"),
            Map.entry("closedSet", "p"), Map.entry("upperCoverCount", "s"),
            Map.entry("irreducible", "p"), Map.entry("minimalKey", "r"),
            Map.entry("generatorCount", "a"), Map.entry("generator", "ar"),
            Map.entry("basisPremise", "r"), Map.entry("basisConclusion", "r"),
            Map.entry("reducedPremise", "r"), Map.entry("counterexample", "p"),
            Map.entry("learnedPremise", "r"), Map.entry("learnedConclusion", "r"),
            Map.entry("queriedSet", "r"), Map.entry("queryPosition", "s"),
            Map.entry("queryBound", "x"), Map.entry("addExample", "s"), Map.entry("example", "r"),
            Map.entry("contextClosure", "s"), Map.entry("support", "s"),
            Map.entry("exceptionCount", "ss"), Map.entry("confidencePercent", "ss"),
            Map.entry("questionPremise", "p"), Map.entry("questionConclusion", "p"),
            Map.entry("isAccepted", "p"), Map.entry("appendText", "c"),
            Map.entry("formattedCharacter", "p"), Map.entry("createBuffer", "btz"),
            Map.entry("writeBuffer", "bpv"), Map.entry("readBuffer", "bp"),
            Map.entry("copyBuffer", "bkbkk"), Map.entry("exportClosures", "bt"),
            Map.entry("firstDifference", "b"), Map.entry("randomClosureSum", "dv"));
    /** Calls that would empty the object too often if they came as often as the others. */
    private static final List<String> SELDOM = List.of("reset", "clearExamples", "restore");
    /** What later calls answer is free. */
    private static final int MAX_CALLS = 512;
    private static final int[] EXTREMES = {-1, Integer.MIN_VALUE, Integer.MAX_VALUE, -2, 64, 65};

    private final Random random;
    private final HornRuleWorkbench workbench = new HornRuleWorkbench();
    private final ReferenceModel model = new ReferenceModel();
    private final List<String> calls = new ArrayList<>();

    private ModelTest(long seed) {
        random = new Random(seed);
    }

    public static void main(String[] args) throws Exception {
        int runs = args.length > 0 ? Integer.parseInt(args[0]) : 600;
        long firstSeed = args.length > 1 ? Long.parseLong(args[1]) : 0;
        List<Method> methods = methods();
        for (long seed = firstSeed; seed < firstSeed + runs; seed++) {
            new ModelTest(seed).randomRun(methods);
        }
        for (long seed = firstSeed; seed < firstSeed + runs; seed++) {
            sweep(methods, seed);
        }
        Due.end();
    }

    private static List<Method> methods() {
        List<Method> methods = new ArrayList<>();
        for (Method method : HornRuleWorkbench.class.getDeclaredMethods()) {
            if (Modifier.isPublic(method.getModifiers())) {
                methods.add(method);
            }
        }
        methods.sort(Comparator.comparing(Method::getName));
        return methods;
    }

    private void randomRun(List<Method> methods) throws Exception {
        call("reset", 1 + random.nextInt(6));
        while (calls.size() < MAX_CALLS && Due.wrongAnswers() == 0) {
            int choice = random.nextInt(10);
            if (choice == 0) {
                playText();
            } else if (choice <= 2) {
                call("addRule", argument('s'), argument('s'));
            } else if (choice == 3) {
                call(random.nextBoolean() ? "undo" : "redo");
            } else {
                Method method = methods.get(random.nextInt(methods.size()));
                if (!SELDOM.contains(method.getName()) || random.nextInt(6) == 0) {
                    play(method);
                }
            }
        }
        tellRun();
    }

    private void tellRun() {
        if (Due.wrongAnswers() > 0) {
            System.out.println("the run: " + String.join("; ", calls));
            Due.end();
        }
    }

    /** Asks every question that changes nothing, with all arguments, about the rules of one seed. */
    private static void sweep(List<Method> methods, long seed) throws Exception {
        ModelTest test = null;
        for (Object[] question : questions(methods)) {
            if (test == null || test.calls.size() == MAX_CALLS) {
                test = new ModelTest(seed);
                test.setUp();
            }
            test.call((String) question[0], Arrays.copyOfRange(question, 1, question.length));
            test.tellRun();
        }
    }

    private void setUp() throws Exception {
        int n = 1 + random.nextInt(6);
        call("reset", n);
        int rules = random.nextInt(11);
        for (int i = 0; i < rules; i++) {
            call("addRule", sparseSet(n), sparseSet(n));
        }
        for (int i = random.nextInt(4); i > 0; i--) {
            call("setEnabled", random.nextInt(10), random.nextInt(2));
        }
        for (int i = random.nextInt(11); i > 0; i--) {
            call("addExample", random.nextInt(1 << n));
        }
        call("formatRules");
    }

    /** Each has the method's name first, and then its arguments. */
    private static List<Object[]> questions(List<Method> methods) {
        List<Object[]> questions = new ArrayList<>();
        for (Method method : methods) {
            String name = method.getName();
            String kinds = KINDS.getOrDefault(name, "");
            if (kinds.isEmpty() && isQuestion(name)) {
                questions.add(new Object[] {name});
            } else if (kinds.matches("[spra]") && isQuestion(name)) {
                for (int i = -1; i <= (kinds.equals("p") ? 140 : 64); i++) {
                    questions.add(new Object[] {name, i});
                }
            } else if (name.equals("generator") || name.equals("firedRule")) {
                for (int i = -1; i <= 64; i++) {
                    for (int k = -1; k <= 20; k++) {
                        questions.add(new Object[] {name, i, k});
                    }
                }
            }
        }
        return questions;
    }

    private static boolean isQuestion(String name) {
        return !List.of("addExample", "clearExamples", "clearText", "parseRules", "redo", "undo",
                "removeLastRule", "restore", "save").contains(name);
    }

    private int sparseSet(int n) {
        int set = random.nextInt(1 << n);
        return random.nextInt(3) == 0 ? set : set & random.nextInt(1 << n);
    }

    private void playText() throws Exception {
        int n = model.attributeCount();
        StringBuilder text = new StringBuilder();
        int rules = random.nextInt(20) == 0 ? 12 : random.nextInt(4);
        for (int i = 0; i < rules; i++) {
            text.append(i > 0 ? "," : "").append(letters(n)).append('>').append(letters(n));
        }
        if (random.nextInt(3) == 0) {
            text.insert(random.nextInt(text.length() + 1), ">,abcdefg AZ{`".charAt(random.nextInt(14)));
        }
        for (char c : text.toString().toCharArray()) {
            call("appendText", (int) c);
        }
        call("parseRules");
        call("formatRules");
    }

    private String letters(int n) {
        StringBuilder letters = new StringBuilder();
        for (int a = 0; a < n; a++) {
            if (random.nextInt(3) == 0) {
                letters.append((char) ('a' + a));
            }
        }
        return letters.toString();
    }

    private void play(Method method) throws Exception {
        String kinds = KINDS.getOrDefault(method.getName(), "");
        Object[] arguments = new Object[kinds.length()];
        for (int i = 0; i < arguments.length; i++) {
            int value = argument(kinds.charAt(i));
            arguments[i] = value;
            if (method.getParameterTypes()[i] == long.class) {
                arguments[i] = random.nextBoolean() ? (long) value : random.nextLong();
            }
        }
        call(method.getName(), arguments);
    }

    private int argument(char kind) {
        int n = model.attributeCount();
        if (random.nextInt(20) == 0) {
            return EXTREMES[random.nextInt(EXTREMES.length)];
        }
        return switch (kind) {
            case 's' -> random.nextInt(25) == 0 ? 1 << n : sparseSet(n);
            case 'r' -> random.nextInt(12) - 1;
            case 'p' -> random.nextInt(random.nextBoolean() ? 8 : 70);
            case 'a' -> random.nextInt(n + 1);
            case 'f' -> random.nextInt(3);
            case 'n' -> random.nextInt(8);
            case 'c' -> 30 + random.nextInt(99);
            case 'b' -> random.nextInt(30) == 0 ? 3 : random.nextInt(3);
            case 't' -> random.nextInt(30) == 0 ? 3 : random.nextInt(3);
            case 'z' -> random.nextInt(68) - 2;
            case 'k' -> random.nextInt(random.nextBoolean() ? 6 : 40);
            case 'd' -> random.nextInt(22);
            case 'x' -> random.nextBoolean() ? random.nextInt() : random.nextInt(100000000);
            default -> random.nextInt();
        };
    }

    private void call(String name, Object... arguments) throws Exception {
        if (calls.size() == MAX_CALLS) {
            return;
        }
        Class<?>[] types = new Class<?>[arguments.length];
        for (int i = 0; i < types.length; i++) {
            types[i] = arguments[i] instanceof Long ? long.class : int.class;
        }
        String shown = name + Arrays.toString(arguments);
        calls.add(shown);
        Method asked = HornRuleWorkbench.class.getDeclaredMethod(name, types);
        Method known = ReferenceModel.class.getDeclaredMethod(name, types);
        known.setAccessible(true);
        Due.due(shown, number(asked, workbench, arguments), number(known, model, arguments));
    }

    private static long number(Method method, Object object, Object[] arguments) throws Exception {
        try {
            return ((Number) method.invoke(object, arguments)).longValue();
        } catch (InvocationTargetException thrown) {
            throw new IllegalStateException(method.getName() + Arrays.toString(arguments), thrown);
        }
    }
}
