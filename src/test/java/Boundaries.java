import java.io.IOException;
import java.io.UncheckedIOException;
import java.nio.file.Files;
import java.nio.file.Path;
import java.util.ArrayList;
import java.util.LinkedHashSet;
import java.util.List;
import java.util.Random;
import java.util.Set;
import java.util.TreeMap;
import java.util.function.IntUnaryOperator;
import java.util.regex.Matcher;
import java.util.regex.Pattern;

/**
 * What the tests of single sentences share. A test claims its sentence with says(), which looks it up
 * in the document; dueAllClaimed() then tells each sentence that no test has claimed.
 */
abstract class Boundaries {
    static final int BAD_SET = -1;
    static final int NONE = -2;
    static final int FULL = -3;
    static final int EMPTY = -4;
    static final int BAD_ARGUMENT = -5;
    static final int OVERFLOW = -6;
    static final int MISSING_BUFFER = -11;
    static final int TYPE_MISMATCH = -12;
    static final int OUT_OF_BOUNDS = -13;
    static final int NEGATIVE_SIZE = -14;
    static final long NO_VALUE = Long.MIN_VALUE;
    static final int MIN = Integer.MIN_VALUE;
    static final int MAX = Integer.MAX_VALUE;

    /** The ten pairs of the first five attributes, in ascending order. */
    static final int[] PAIRS = {3, 5, 6, 9, 10, 12, 17, 18, 20, 24};

    private static final TreeMap<Integer, Set<String>> DOCUMENT = readDocument(Path.of("../shared/DOC.md"));
    private static final Set<String> CLAIMED = new LinkedHashSet<>();
    private static String claim = "";
    private static int asked = 1;

    /** The sentences of each promise by its number; those before promise 1 stand at number 0. */
    private static TreeMap<Integer, Set<String>> readDocument(Path path) {
        TreeMap<Integer, Set<String>> sentences = new TreeMap<>();
        String text;
        try {
            text = Files.readString(path);
        } catch (IOException problem) {
            throw new UncheckedIOException(problem);
        }
        text = text.replaceAll("(?s)```.*?```", "");
        text = text.substring(text.indexOf("## What it is"), text.indexOf("## Not promised"));
        int promise = 0;
        for (String part : text.split("\\n\\s*\\n|\\n(?=- )")) {
            Matcher heading = Pattern.compile("## Promise (\\d+):.*").matcher(part.trim());
            if (heading.matches()) {
                promise = Integer.parseInt(heading.group(1));
            } else if (!part.trim().startsWith("#")) {
                String flat = part.trim().replaceAll("\\s+", " ").replaceFirst("^- ", "");
                for (String sentence : flat.split("(?<=[.?]) ")) {
                    sentences.computeIfAbsent(promise, k -> new LinkedHashSet<>()).add(sentence);
                }
            }
        }
        return sentences;
    }

    /** A signature, or a parameter about which no bound is told. */
    private static boolean isPlainLine(String sentence) {
        return sentence.matches("`[^`]*\\)`") || sentence.matches("`\\w+`: [^0-9]*") && !sentence.contains(",");
    }

    static void says(int promise, String sentence) {
        dueAsked();
        claim = promise + " \"" + sentence + "\"";
        asked = 0;
        boolean stands = DOCUMENT.getOrDefault(promise, Set.of()).contains(sentence);
        Due.due(claim + " stands in the document", stands ? 1 : 0, 1);
        Due.due(claim + " has one test", CLAIMED.add(promise + " " + sentence) ? 1 : 0, 1);
    }

    private static void dueAsked() {
        Due.due(claim + " is tested by a call", asked > 0 ? 1 : 0, 1);
    }

    static void dueAllClaimed(String[] withoutBoundary) {
        dueAsked();
        Set<String> left = new LinkedHashSet<>();
        DOCUMENT.forEach((promise, sentences) -> sentences.stream()
                .filter(sentence -> !isPlainLine(sentence))
                .forEach(sentence -> left.add(promise + " " + sentence)));
        Due.due("promises and the description", DOCUMENT.size(), 74);
        left.removeAll(CLAIMED);
        for (String sentence : withoutBoundary) {
            Due.due("is left without a test: " + sentence, left.remove(sentence) ? 1 : 0, 1);
        }
        for (String sentence : left) {
            Due.due("no test claims: " + sentence, 0, 1);
        }
        System.out.println(CLAIMED.size() + " sentences have a test of their own");
    }

    static void due(String call, long got, long want) {
        asked++;
        Due.due(claim + ": " + call, got, want);
    }

    static void dueEach(String name, IntUnaryOperator call, int want, int... arguments) {
        for (int argument : arguments) {
            due(name + "(" + argument + ")", call.applyAsInt(argument), want);
        }
    }

    /** The elements from position 0 on, and NONE at every other position. */
    static void dueRow(String name, IntUnaryOperator call, int... want) {
        for (int i = 0; i < want.length; i++) {
            due(name + "(" + i + ")", call.applyAsInt(i), want[i]);
        }
        dueEach(name, call, NONE, want.length, want.length + 1, -1, -2, MIN, MAX);
    }

    static HornRuleWorkbench with(int n, int... rules) {
        HornRuleWorkbench w = new HornRuleWorkbench();
        w.reset(n);
        for (int i = 0; i + 1 < rules.length; i += 2) {
            w.addRule(rules[i], rules[i + 1]);
        }
        return w;
    }

    /** Six attributes; each pair of the first five implies the sixth, by a rule of its own. */
    static HornRuleWorkbench withPairs() {
        HornRuleWorkbench w = with(6);
        for (int pair : PAIRS) {
            w.addRule(pair, 32);
        }
        return w;
    }

    /** Systems of ten rules each, the same in every run. */
    static List<HornRuleWorkbench> manySystems(int n, int count) {
        List<HornRuleWorkbench> systems = new ArrayList<>();
        Random random = new Random(73);
        for (int i = 0; i < count; i++) {
            HornRuleWorkbench w = with(n);
            for (int rule = 0; rule < 10; rule++) {
                w.addRule(random.nextInt(1 << n) & random.nextInt(1 << n), 1 << random.nextInt(n));
            }
            systems.add(w);
        }
        return systems;
    }

    static HornRuleWorkbench withExamples(int n, int... examples) {
        HornRuleWorkbench w = with(n);
        for (int example : examples) {
            w.addExample(example);
        }
        return w;
    }

    static int[] notSets(int n) {
        return new int[] {-1, 1 << n, (1 << n) + 1, -(1 << n), 2 << n, MIN, MAX};
    }

    static void append(HornRuleWorkbench w, String text) {
        for (char c : text.toCharArray()) {
            w.appendText(c);
        }
    }

    static int parse(HornRuleWorkbench w, String text) {
        append(w, text);
        return w.parseRules();
    }

    static String formatted(HornRuleWorkbench w) {
        StringBuilder text = new StringBuilder();
        int length = w.formatRules();
        for (int i = 0; i < length; i++) {
            text.append((char) w.formattedCharacter(i));
        }
        return text.toString();
    }

    static boolean isSubset(int part, int whole) {
        return (part | whole) == whole;
    }
}
