import java.util.ArrayList;
import java.util.HashMap;
import java.util.LinkedHashMap;
import java.util.List;
import java.util.Map;
import java.util.TreeSet;
import java.util.function.IntPredicate;
import java.util.regex.Pattern;

/**
 * A second writing of the document, by its definitions word for word and without regard to speed.
 * It shares no code with the class, so that both are unlikely to be wrong in the same way.
 */
final class ReferenceModel {
    static final int BAD_SET = -1, NONE = -2, FULL = -3, EMPTY = -4, BAD_ARGUMENT = -5, OVERFLOW = -6;
    static final int MISSING_BUFFER = -11, TYPE_MISMATCH = -12, OUT_OF_BOUNDS = -13, NEGATIVE_SIZE = -14;

    record Rule(int premise, int conclusion, boolean enabled) { }

    record State(int n, List<Rule> rules, List<Integer> examples) { }

    record Question(int premise, int conclusion, boolean accepted) { }

    private int n = 4;
    private List<Rule> rules = new ArrayList<>();
    private List<Integer> examples = new ArrayList<>();
    private final List<List<Rule>> past = new ArrayList<>();
    private final List<List<Rule>> future = new ArrayList<>();
    private String text = "";
    private String formatted = "";
    private State snapshot;
    private List<Rule> closuresFor;
    private int[] closures = {};
    private final Object[] buffers = new Object[3];

    // sets

    private boolean valid(int set) {
        return set >= 0 && set < Math.pow(2, n);
    }

    private int full() {
        return (int) Math.pow(2, n) - 1;
    }

    private static boolean in(int part, int whole) {
        return (part | whole) == whole;
    }

    private static boolean properly(int part, int whole) {
        return in(part, whole) && part != whole;
    }

    private List<Integer> sets(IntPredicate wanted) {
        List<Integer> found = new ArrayList<>();
        for (int set = 0; set <= full(); set++) {
            if (wanted.test(set)) {
                found.add(set);
            }
        }
        return found;
    }

    private boolean any(IntPredicate wanted) {
        return !sets(wanted).isEmpty();
    }

    private static int pick(List<Integer> list, int position) {
        return position < 0 || position >= list.size() ? NONE : list.get(position);
    }

    // rules

    private List<Rule> enabledRules() {
        return rules.stream().filter(Rule::enabled).toList();
    }

    private static boolean closedUnder(List<Rule> some, int set) {
        return some.stream().allMatch(r -> !in(r.premise, set) || in(r.conclusion, set));
    }

    private int closureUnder(List<Rule> some, int set) {
        int meet = full();
        for (int closed : sets(y -> closedUnder(some, y) && in(set, y))) {
            meet &= closed;
        }
        return meet;
    }

    private boolean closed(int set) {
        return close(set) == set;
    }

    /** Every edit makes a new list of rules, so the closures hold as long as the list is the same. */
    private int close(int set) {
        if (closuresFor != rules || closures.length != full() + 1) {
            List<Rule> enabled = enabledRules();
            closures = sets(x -> true).stream().mapToInt(x -> closureUnder(enabled, x)).toArray();
            closuresFor = rules;
        }
        return closures[set];
    }

    private void edit(List<Rule> changed) {
        past.add(rules);
        if (past.size() > 12) {
            past.remove(0);
        }
        future.clear();
        rules = changed;
    }

    private void forgetEdits() {
        past.clear();
        future.clear();
    }

    int reset(int count) {
        if (count < 1 || count > 6) {
            return BAD_ARGUMENT;
        }
        int previous = n;
        n = count;
        rules = new ArrayList<>();
        examples = new ArrayList<>();
        forgetEdits();
        return previous;
    }

    int attributeCount() {
        return n;
    }

    int addRule(int premise, int conclusion) {
        if (!valid(premise) || !valid(conclusion)) {
            return BAD_SET;
        }
        if (rules.size() == 10) {
            return FULL;
        }
        List<Rule> changed = new ArrayList<>(rules);
        changed.add(new Rule(premise, conclusion, true));
        edit(changed);
        return changed.size() - 1;
    }

    int removeLastRule() {
        if (rules.isEmpty()) {
            return EMPTY;
        }
        edit(new ArrayList<>(rules.subList(0, rules.size() - 1)));
        return rules.size();
    }

    private boolean noRule(int rule) {
        return rule < 0 || rule >= rules.size();
    }

    private void replace(int rule, Rule by) {
        if (!by.equals(rules.get(rule))) {
            List<Rule> changed = new ArrayList<>(rules);
            changed.set(rule, by);
            edit(changed);
        }
    }

    int setEnabled(int rule, int enabled) {
        if (noRule(rule)) {
            return NONE;
        }
        if (enabled != 0 && enabled != 1) {
            return BAD_ARGUMENT;
        }
        Rule old = rules.get(rule);
        replace(rule, new Rule(old.premise, old.conclusion, enabled == 1));
        return old.enabled ? 1 : 0;
    }

    int setRule(int rule, int premise, int conclusion) {
        if (noRule(rule)) {
            return NONE;
        }
        if (!valid(premise) || !valid(conclusion)) {
            return BAD_SET;
        }
        Rule old = rules.get(rule);
        replace(rule, new Rule(premise, conclusion, old.enabled));
        return premise == old.premise && conclusion == old.conclusion ? 0 : 1;
    }

    int ruleCount() {
        return rules.size();
    }

    int premise(int rule) {
        return noRule(rule) ? NONE : rules.get(rule).premise;
    }

    int conclusion(int rule) {
        return noRule(rule) ? NONE : rules.get(rule).conclusion;
    }

    int isEnabled(int rule) {
        return noRule(rule) ? NONE : rules.get(rule).enabled ? 1 : 0;
    }

    int closure(int set) {
        return valid(set) ? close(set) : BAD_SET;
    }

    int isClosed(int set) {
        return !valid(set) ? BAD_SET : closed(set) ? 1 : 0;
    }

    int entails(int premise, int conclusion) {
        if (!valid(premise) || !valid(conclusion)) {
            return BAD_SET;
        }
        return in(conclusion, close(premise)) ? 1 : 0;
    }

    private List<Integer> firings(int set) {
        List<Integer> fired = new ArrayList<>();
        boolean changed = true;
        while (changed) {
            changed = false;
            for (int k = 0; k < rules.size() && !changed; k++) {
                Rule r = rules.get(k);
                if (r.enabled && in(r.premise, set) && !in(r.conclusion, set)) {
                    fired.add(k);
                    set |= r.conclusion;
                    changed = true;
                }
            }
        }
        return fired;
    }

    int firingCount(int set) {
        return valid(set) ? firings(set).size() : BAD_SET;
    }

    int firedRule(int set, int step) {
        return valid(set) ? pick(firings(set), step) : BAD_SET;
    }

    // the closed sets

    int closedSetCount() {
        return sets(this::closed).size();
    }

    int closedSet(int position) {
        return pick(sets(this::closed), position);
    }

    int chainLength() {
        Map<Integer, Integer> longest = new HashMap<>();
        int best = 0;
        for (int y : sets(this::closed)) {
            int below = 0;
            for (int x : longest.keySet()) {
                if (properly(x, y)) {
                    below = Math.max(below, longest.get(x));
                }
            }
            longest.put(y, below + 1);
            best = Math.max(best, below + 1);
        }
        return best;
    }

    private int covers(int x) {
        List<Integer> closedSets = sets(this::closed);
        int count = 0;
        for (int y : closedSets) {
            boolean between = closedSets.stream().anyMatch(z -> properly(x, z) && properly(z, y));
            if (properly(x, y) && !between) {
                count++;
            }
        }
        return count;
    }

    int upperCoverCount(int set) {
        return !valid(set) ? BAD_SET : !closed(set) ? NONE : covers(set);
    }

    private List<Integer> irreducibles() {
        return sets(x -> closed(x) && covers(x) == 1);
    }

    int irreducibleCount() {
        return irreducibles().size();
    }

    int irreducible(int position) {
        return pick(irreducibles(), position);
    }

    private List<Integer> keys() {
        return sets(k -> close(k) == full() && !any(p -> properly(p, k) && close(p) == full()));
    }

    int minimalKeyCount() {
        return keys().size();
    }

    int minimalKey(int position) {
        return pick(keys(), position);
    }

    private List<Integer> generators(int a) {
        int bit = 1 << a;
        return sets(g -> !in(bit, g) && in(bit, close(g))
                && !any(p -> properly(p, g) && in(bit, close(p))));
    }

    int generatorCount(int attribute) {
        return attribute < 0 || attribute >= n ? NONE : generators(attribute).size();
    }

    int generator(int attribute, int position) {
        return attribute < 0 || attribute >= n ? NONE : pick(generators(attribute), position);
    }

    private List<Integer> pseudoClosed() {
        TreeSet<Integer> found = new TreeSet<>();
        for (int size = 0; size <= n; size++) {
            for (int p = 0; p <= full(); p++) {
                int set = p;
                if (Integer.bitCount(p) == size && !closed(p)
                        && found.stream().allMatch(q -> !properly(q, set) || in(close(q), set))) {
                    found.add(p);
                }
            }
        }
        return new ArrayList<>(found);
    }

    int basisSize() {
        return pseudoClosed().size();
    }

    int basisPremise(int position) {
        return pick(pseudoClosed(), position);
    }

    int basisConclusion(int position) {
        int premise = pick(pseudoClosed(), position);
        return premise == NONE ? NONE : close(premise);
    }

    private boolean entailedByOthers(List<Integer> numbers, int k) {
        List<Rule> others = new ArrayList<>();
        for (int other : numbers) {
            if (other != k) {
                others.add(rules.get(other));
            }
        }
        return in(rules.get(k).conclusion, closureUnder(others, rules.get(k).premise));
    }

    private List<Integer> enabledNumbers() {
        List<Integer> numbers = new ArrayList<>();
        for (int k = 0; k < rules.size(); k++) {
            if (rules.get(k).enabled) {
                numbers.add(k);
            }
        }
        return numbers;
    }

    int redundantRules() {
        int bits = 0;
        for (int k : enabledNumbers()) {
            if (entailedByOthers(enabledNumbers(), k)) {
                bits += 1 << k;
            }
        }
        return bits;
    }

    int irredundantCover() {
        List<Integer> cover = enabledNumbers();
        for (Integer k : enabledNumbers()) {
            if (entailedByOthers(cover, k)) {
                cover.remove(k);
            }
        }
        int bits = 0;
        for (int k : cover) {
            bits += 1 << k;
        }
        return bits;
    }

    int reducedPremise(int rule) {
        if (noRule(rule)) {
            return NONE;
        }
        int premise = rules.get(rule).premise;
        for (int a = 0; a < n; a++) {
            if (in(1 << a, premise) && in(rules.get(rule).conclusion, close(premise - (1 << a)))) {
                premise -= 1 << a;
            }
        }
        return premise;
    }

    // the learner

    /** One run; how often a pair's s was replaced is kept so that tests can see what they reach. */
    final class Learned {
        final List<int[]> pairs = new ArrayList<>();
        final List<Integer> counterexamples = new ArrayList<>();
        final Map<Integer, Boolean> answers = new LinkedHashMap<>();
        int positives;
        int replaced;

        Learned() {
            List<Integer> disagreements = disagreements();
            while (!disagreements.isEmpty()) {
                int x = disagreements.get(0);
                counterexamples.add(x);
                if (closed(x)) {
                    positives++;
                    for (int[] pair : pairs) {
                        if (in(pair[0], x)) {
                            pair[1] &= x;
                        }
                    }
                } else {
                    negative(x);
                }
                disagreements = disagreements();
            }
        }

        private List<Integer> disagreements() {
            return sets(x -> closed(x)
                    != pairs.stream().allMatch(p -> !in(p[0], x) || in(p[1], x)));
        }

        private void negative(int x) {
            for (int[] pair : pairs) {
                int both = pair[0] & x;
                if (properly(both, pair[0])) {
                    answers.putIfAbsent(both, closed(both));
                    if (!answers.get(both)) {
                        pair[0] = both;
                        pair[1] = full() - both;
                        replaced++;
                        return;
                    }
                }
            }
            pairs.add(new int[] {x, full() - x});
        }
    }

    int learnerRounds() {
        return new Learned().counterexamples.size();
    }

    int counterexample(int round) {
        return pick(new Learned().counterexamples, round);
    }

    int positiveCounterexamples() {
        return new Learned().positives;
    }

    int learnedCount() {
        return new Learned().pairs.size();
    }

    int learnedPremise(int position) {
        return pick(new Learned().pairs.stream().map(p -> p[0]).toList(), position);
    }

    int learnedConclusion(int position) {
        return pick(new Learned().pairs.stream().map(p -> p[1]).toList(), position);
    }

    int membershipQueries() {
        return new Learned().answers.size();
    }

    int queriedSet(int position) {
        return pick(new ArrayList<>(new Learned().answers.keySet()), position);
    }

    int queryPosition(int set) {
        if (!valid(set)) {
            return BAD_SET;
        }
        int position = new ArrayList<>(new Learned().answers.keySet()).indexOf(set);
        return position < 0 ? NONE : position;
    }

    int queryBound(int factor) {
        if (factor < 0 || factor > 2000000000) {
            return BAD_ARGUMENT;
        }
        try {
            return Math.multiplyExact(Math.multiplyExact(basisSize(), n + 1), factor);
        } catch (ArithmeticException tooGreat) {
            return OVERFLOW;
        }
    }

    // examples and exploration

    int addExample(int set) {
        if (!valid(set)) {
            return BAD_SET;
        }
        if (examples.size() == 10) {
            return FULL;
        }
        examples.add(set);
        return examples.size() - 1;
    }

    int clearExamples() {
        int removed = examples.size();
        examples.clear();
        return removed;
    }

    int exampleCount() {
        return examples.size();
    }

    int example(int position) {
        return pick(examples, position);
    }

    private int contextClosureIn(List<Integer> list, int set) {
        return list.stream().filter(e -> in(set, e)).reduce(full(), (x, y) -> x & y);
    }

    int contextClosure(int set) {
        return valid(set) ? contextClosureIn(examples, set) : BAD_SET;
    }

    int support(int set) {
        return valid(set) ? (int) examples.stream().filter(e -> in(set, e)).count() : BAD_SET;
    }

    int exceptionCount(int premise, int conclusion) {
        if (!valid(premise) || !valid(conclusion)) {
            return BAD_SET;
        }
        return (int) examples.stream().filter(e -> in(premise, e) && !in(conclusion, e)).count();
    }

    int confidencePercent(int premise, int conclusion) {
        if (!valid(premise) || !valid(conclusion)) {
            return BAD_SET;
        }
        long both = examples.stream().filter(e -> in(premise, e) && in(conclusion, e)).count();
        return support(premise) == 0 ? NONE : (int) Math.floor(100.0 * both / support(premise));
    }

    private List<Question> explore() {
        List<Question> questions = new ArrayList<>();
        List<Integer> known = new ArrayList<>(examples);
        known.removeIf(e -> !closed(e));
        for (int p = 0; p <= full(); p++) {
            int set = p;
            boolean again = questions.stream().noneMatch(
                    q -> q.accepted && properly(q.premise, set) && !in(q.conclusion, set));
            while (again && contextClosureIn(known, p) != p) {
                int c = contextClosureIn(known, p);
                boolean accepted = entails(p, c) == 1;
                questions.add(new Question(p, c, accepted));
                if (!accepted) {
                    known.add(close(p));
                }
                again = !accepted;
            }
        }
        return questions;
    }

    int questionCount() {
        return explore().size();
    }

    int questionPremise(int position) {
        return pick(explore().stream().map(Question::premise).toList(), position);
    }

    int questionConclusion(int position) {
        return pick(explore().stream().map(Question::conclusion).toList(), position);
    }

    int isAccepted(int position) {
        return pick(explore().stream().map(q -> q.accepted ? 1 : 0).toList(), position);
    }

    // texts

    int appendText(int character) {
        if (character < 32 || character > 126) {
            return BAD_ARGUMENT;
        }
        if (text.length() == 80) {
            return FULL;
        }
        text += (char) character;
        return text.length();
    }

    int clearText() {
        int length = text.length();
        text = "";
        return length;
    }

    private boolean hasForm(String candidate) {
        String set = "a?b?c?d?e?f?".substring(0, 2 * n);
        String rule = set + ">" + set;
        return Pattern.matches(rule + "(," + rule + ")*", candidate);
    }

    private static int setOf(String letters) {
        int set = 0;
        for (char c : letters.toCharArray()) {
            set += 1 << (c - 'a');
        }
        return set;
    }

    int parseRules() {
        String parsed = text;
        text = "";
        for (int p = 0; p < parsed.length(); p++) {
            String prefix = parsed.substring(0, p + 1);
            if (!hasForm(prefix) && !hasForm(prefix + ">")) {
                return -100 - p;
            }
        }
        if (!hasForm(parsed)) {
            return -100 - parsed.length();
        }
        List<Rule> changed = new ArrayList<>(rules);
        for (String rule : parsed.split(",")) {
            String[] sides = rule.split(">", -1);
            changed.add(new Rule(setOf(sides[0]), setOf(sides[1]), true));
        }
        if (changed.size() > 10) {
            return FULL;
        }
        int added = changed.size() - rules.size();
        edit(changed);
        return added;
    }

    private static String letters(int set) {
        StringBuilder letters = new StringBuilder();
        for (char c = 'a'; c <= 'f'; c++) {
            if (in(1 << (c - 'a'), set)) {
                letters.append(c);
            }
        }
        return letters.toString();
    }

    int formatRules() {
        formatted = String.join(",",
                rules.stream().map(r -> letters(r.premise) + ">" + letters(r.conclusion)).toList());
        return formatted.length();
    }

    int formattedCharacter(int position) {
        return position < 0 || position >= formatted.length() ? NONE : formatted.charAt(position);
    }

    // edits and the snapshot

    int undo() {
        if (past.isEmpty()) {
            return EMPTY;
        }
        future.add(rules);
        rules = past.remove(past.size() - 1);
        return past.size();
    }

    int redo() {
        if (future.isEmpty()) {
            return EMPTY;
        }
        past.add(rules);
        rules = future.remove(future.size() - 1);
        return future.size();
    }

    private State state() {
        return new State(n, new ArrayList<>(rules), new ArrayList<>(examples));
    }

    int save() {
        snapshot = state();
        return rules.size();
    }

    int equalsSnapshot() {
        return snapshot == null ? EMPTY : snapshot.equals(state()) ? 1 : 0;
    }

    int restore() {
        if (snapshot == null) {
            return EMPTY;
        }
        n = snapshot.n;
        rules = new ArrayList<>(snapshot.rules);
        examples = new ArrayList<>(snapshot.examples);
        forgetEdits();
        return rules.size();
    }

    int undoCount() {
        return past.size();
    }

    int redoCount() {
        return future.size();
    }

    // buffers: real arrays of the three types, as the document tells them

    private static boolean noBuffer(int buffer) {
        return buffer < 0 || buffer > 2;
    }

    private static Object array(int type, int size) {
        return type == 0 ? new byte[size] : type == 1 ? new int[size] : new long[size];
    }

    private static int length(Object array) {
        return java.lang.reflect.Array.getLength(array);
    }

    private static void set(Object array, int position, long value) {
        if (array instanceof byte[] bytes) {
            bytes[position] = (byte) value;
        } else if (array instanceof int[] ints) {
            ints[position] = (int) value;
        } else {
            ((long[]) array)[position] = value;
        }
    }

    int createBuffer(int buffer, int type, int size) {
        if (noBuffer(buffer) || type < 0 || type > 2 || size > 64) {
            return BAD_ARGUMENT;
        }
        if (size < 0) {
            return NEGATIVE_SIZE;
        }
        buffers[buffer] = array(type, size);
        return 1;
    }

    int writeBuffer(int buffer, int position, long value) {
        if (noBuffer(buffer)) {
            return BAD_ARGUMENT;
        }
        if (buffers[buffer] == null) {
            return MISSING_BUFFER;
        }
        if (position < 0 || position >= length(buffers[buffer])) {
            return OUT_OF_BOUNDS;
        }
        set(buffers[buffer], position, value);
        return 1;
    }

    long readBuffer(int buffer, int position) {
        if (noBuffer(buffer) || buffers[buffer] == null
                || position < 0 || position >= length(buffers[buffer])) {
            return Long.MIN_VALUE;
        }
        return java.lang.reflect.Array.getLong(buffers[buffer], position);
    }

    int copyBuffer(int source, int sourcePosition, int target, int targetPosition, int count) {
        if (noBuffer(source) || noBuffer(target)) {
            return BAD_ARGUMENT;
        }
        if (buffers[source] == null || buffers[target] == null) {
            return MISSING_BUFFER;
        }
        if (buffers[source].getClass() != buffers[target].getClass()) {
            return TYPE_MISMATCH;
        }
        try {
            System.arraycopy(buffers[source], sourcePosition, buffers[target], targetPosition, count);
        } catch (IndexOutOfBoundsException outside) {
            return OUT_OF_BOUNDS;
        }
        return count;
    }

    int exportClosures(int buffer, int type) {
        if (noBuffer(buffer) || type < 0 || type > 2) {
            return BAD_ARGUMENT;
        }
        buffers[buffer] = array(type, full() + 1);
        for (int k = 0; k <= full(); k++) {
            set(buffers[buffer], k, close(k));
        }
        return full() + 1;
    }

    int firstDifference(int buffer) {
        if (noBuffer(buffer)) {
            return BAD_ARGUMENT;
        }
        if (buffers[buffer] == null) {
            return MISSING_BUFFER;
        }
        for (int k = 0; k <= full() && k < length(buffers[buffer]); k++) {
            if (readBuffer(buffer, k) != close(k)) {
                return k;
            }
        }
        return NONE;
    }

    int randomClosureSum(int count, int seed) {
        if (count < 1 || count > 20) {
            return BAD_ARGUMENT;
        }
        int state = seed;
        int sum = 0;
        for (int i = 0; i < count; i++) {
            state = state * 1103515245 + 12345;
            int set = ((state & 0x7fffffff) / 65536) % (1 << n);
            for (int a = 0; a < n; a++) {
                sum += in(1 << a, close(set)) ? 1 : 0;
            }
        }
        return sum;
    }
}
