/**
 * A workbench for definite Horn implications over one to six attributes.
 * An attribute set is an int whose bit a says whether attribute a is in the set.
 */
public final class HornRuleWorkbench {
    public static final int BAD_SET = -1;
    public static final int NONE = -2;
    public static final int FULL = -3;
    public static final int EMPTY = -4;
    public static final int BAD_ARGUMENT = -5;
    public static final int OVERFLOW = -6;
    public static final int MISSING_BUFFER = -11;
    public static final int TYPE_MISMATCH = -12;
    public static final int OUT_OF_BOUNDS = -13;
    public static final int NEGATIVE_SIZE = -14;
    public static final long NO_VALUE = Long.MIN_VALUE;

    private static final int FIRST_ATTRIBUTES = 4;
    private static final int MAX_ATTRIBUTES = 6;
    private static final int MAX_SETS = 1 << MAX_ATTRIBUTES;
    private static final int MAX_RULES = 10;
    private static final int MAX_EXAMPLES = 10;
    private static final int MAX_EDITS = 12;
    private static final int MAX_TEXT = 80;
    // ten rules of two sets of six letters and an arrow, with nine commas between them
    private static final int MAX_FORMATTED = MAX_RULES * (2 * MAX_ATTRIBUTES + 1) + MAX_RULES - 1;
    private static final int MAX_FACTOR = 2000000000;
    private static final int MAX_DRAWS = 20;
    private static final int BUFFERS = 3;
    private static final int MAX_BUFFER = 64;
    private static final int TYPE_BYTE = 0;
    private static final int TYPE_INT = 1;
    private static final int TYPE_LONG = 2;
    private static final int SYNTAX_ERROR = -100;
    // The learner never holds more pairs than there are rules. A negative round makes a pair or
    // makes its s smaller, 7 times at most; a positive round makes an r smaller, and the r of a
    // pair begins with at most 0, 1, .. 6 attributes after those 7 rounds, 21 in all.
    private static final int MAX_ROUNDS = MAX_RULES * (7 + 21);
    // The first counterexample for a set makes its context closure its closure, so a set is asked
    // about at most twice, and adds at most one example.
    private static final int MAX_QUESTIONS = 2 * MAX_SETS;
    private static final int MAX_EXPLORED = MAX_EXAMPLES + MAX_SETS;

    private int attributes = FIRST_ATTRIBUTES;
    private final RuleList rules = new RuleList();
    private final IntRow examples = new IntRow(MAX_EXAMPLES);
    private final ClosureTable table = new ClosureTable();
    private final Lattice lattice = new Lattice();
    private final Learner learner = new Learner();
    private final Exploration exploration = new Exploration();
    // Both runs are kept until something changes that they depend on.
    private boolean learnerIsStale = true;
    private boolean explorationIsStale = true;
    private final History history = new History();
    private final Snapshot snapshot = new Snapshot();
    private final IntRow text = new IntRow(MAX_TEXT);
    private final IntRow formatted = new IntRow(MAX_FORMATTED);
    private final RuleParser parser = new RuleParser();
    private final Buffer[] buffers = new Buffer[BUFFERS];

    public HornRuleWorkbench() {
        for (int i = 0; i < buffers.length; i++) {
            buffers[i] = new Buffer();
        }
        startAfresh();
    }

    public int reset(int n) {
        if (n < 1 || n > MAX_ATTRIBUTES) {
            return BAD_ARGUMENT;
        }
        int previous = attributes;
        attributes = n;
        rules.clear();
        examples.clear();
        startAfresh();
        return previous;
    }

    public int attributeCount() {
        return attributes;
    }

    public int addRule(int premise, int conclusion) {
        if (!isValid(premise) || !isValid(conclusion)) {
            return BAD_SET;
        }
        if (rules.size() >= MAX_RULES) {
            return FULL;
        }
        rules.append(premise, conclusion);
        recordEdit();
        return rules.size() - 1;
    }

    public int removeLastRule() {
        if (rules.size() == 0) {
            return EMPTY;
        }
        rules.removeEnd();
        recordEdit();
        return rules.size();
    }

    public int setEnabled(int rule, int enabled) {
        if (!rules.has(rule)) {
            return NONE;
        }
        if (enabled != 0 && enabled != 1) {
            return BAD_ARGUMENT;
        }
        int previous = rules.flagAt(rule);
        if (previous != enabled) {
            rules.replace(rule, rules.premiseAt(rule), rules.conclusionAt(rule), enabled);
            recordEdit();
        }
        return previous;
    }

    public int setRule(int rule, int premise, int conclusion) {
        if (!rules.has(rule)) {
            return NONE;
        }
        if (!isValid(premise) || !isValid(conclusion)) {
            return BAD_SET;
        }
        if (rules.premiseAt(rule) == premise && rules.conclusionAt(rule) == conclusion) {
            return 0;
        }
        rules.replace(rule, premise, conclusion, rules.flagAt(rule));
        recordEdit();
        return 1;
    }

    public int ruleCount() {
        return rules.size();
    }

    public int premise(int rule) {
        return rules.premiseAt(rule);
    }

    public int conclusion(int rule) {
        return rules.conclusionAt(rule);
    }

    public int isEnabled(int rule) {
        return rules.flagAt(rule);
    }

    public int closure(int set) {
        return isValid(set) ? table.closureOf(set) : BAD_SET;
    }

    public int isClosed(int set) {
        return isValid(set) ? flag(table.isFixed(set)) : BAD_SET;
    }

    public int entails(int premise, int conclusion) {
        if (!isValid(premise) || !isValid(conclusion)) {
            return BAD_SET;
        }
        return flag(table.reaches(premise, conclusion));
    }

    public int firingCount(int set) {
        if (!isValid(set)) {
            return BAD_SET;
        }
        int current = set;
        int fired = 0;
        while (fired < MAX_RULES && !table.isFixed(current)) {
            current |= rules.conclusionAt(table.firingRuleOf(current));
            fired++;
        }
        return fired;
    }

    public int firedRule(int set, int step) {
        if (!isValid(set)) {
            return BAD_SET;
        }
        if (step < 0 || step >= MAX_RULES) {
            return NONE;
        }
        int current = set;
        for (int fired = 0; fired < step && !table.isFixed(current); fired++) {
            current |= rules.conclusionAt(table.firingRuleOf(current));
        }
        return table.firingRuleOf(current);
    }

    public int closedSetCount() {
        return lattice.listClosed(table).size();
    }

    public int closedSet(int position) {
        return lattice.listClosed(table).at(position);
    }

    public int chainLength() {
        return lattice.longestChain(table);
    }

    public int upperCoverCount(int set) {
        if (!isValid(set)) {
            return BAD_SET;
        }
        return table.isFixed(set) ? lattice.coversOf(table, set) : NONE;
    }

    public int irreducibleCount() {
        return lattice.listIrreducible(table).size();
    }

    public int irreducible(int position) {
        return lattice.listIrreducible(table).at(position);
    }

    public int minimalKeyCount() {
        return lattice.listMinimal(table, table.full(), table.full()).size();
    }

    public int minimalKey(int position) {
        return lattice.listMinimal(table, table.full(), table.full()).at(position);
    }

    public int generatorCount(int attribute) {
        return isAttribute(attribute) ? listGenerators(attribute).size() : NONE;
    }

    public int generator(int attribute, int position) {
        return isAttribute(attribute) ? listGenerators(attribute).at(position) : NONE;
    }

    public int basisSize() {
        return lattice.listPseudoClosed(table).size();
    }

    public int basisPremise(int position) {
        return lattice.listPseudoClosed(table).at(position);
    }

    public int basisConclusion(int position) {
        int pseudoClosed = lattice.listPseudoClosed(table).at(position);
        return pseudoClosed < 0 ? NONE : table.closureOf(pseudoClosed);
    }

    public int redundantRules() {
        int enabled = rules.enabledMask();
        int redundant = 0;
        for (int rule = 0; rule < rules.size(); rule++) {
            if (hasBit(enabled, rule) && rules.followsFrom(enabled & ~(1 << rule), rule)) {
                redundant |= 1 << rule;
            }
        }
        return redundant;
    }

    public int irredundantCover() {
        int cover = rules.enabledMask();
        for (int rule = 0; rule < rules.size(); rule++) {
            if (hasBit(cover, rule) && rules.followsFrom(cover & ~(1 << rule), rule)) {
                cover &= ~(1 << rule);
            }
        }
        return cover;
    }

    public int reducedPremise(int rule) {
        if (!rules.has(rule)) {
            return NONE;
        }
        int reduced = rules.premiseAt(rule);
        for (int a = 0; a < attributes; a++) {
            int smaller = reduced & ~(1 << a);
            if (table.reaches(smaller, rules.conclusionAt(rule))) {
                reduced = smaller;
            }
        }
        return reduced;
    }

    public int learnerRounds() {
        return finishedLearner().counterexamples.size();
    }

    public int counterexample(int round) {
        return finishedLearner().counterexamples.at(round);
    }

    public int positiveCounterexamples() {
        return finishedLearner().positives;
    }

    public int learnedCount() {
        return finishedLearner().premises.size();
    }

    public int learnedPremise(int position) {
        return finishedLearner().premises.at(position);
    }

    public int learnedConclusion(int position) {
        return finishedLearner().conclusions.at(position);
    }

    public int membershipQueries() {
        return finishedLearner().queries.size();
    }

    public int queriedSet(int position) {
        return finishedLearner().queries.at(position);
    }

    public int queryPosition(int set) {
        return isValid(set) ? finishedLearner().queries.positionOf(set) : BAD_SET;
    }

    public int queryBound(int factor) {
        if (factor < 0 || factor > MAX_FACTOR) {
            return BAD_ARGUMENT;
        }
        long bound = (long) lattice.listPseudoClosed(table).size() * (attributes + 1) * factor;
        return bound > Integer.MAX_VALUE ? OVERFLOW : (int) bound;
    }

    public int addExample(int set) {
        if (!isValid(set)) {
            return BAD_SET;
        }
        if (examples.size() >= MAX_EXAMPLES) {
            return FULL;
        }
        examples.append(set);
        explorationIsStale = true;
        return examples.size() - 1;
    }

    public int clearExamples() {
        int removed = examples.size();
        examples.clear();
        explorationIsStale = true;
        return removed;
    }

    public int exampleCount() {
        return examples.size();
    }

    public int example(int position) {
        return examples.at(position);
    }

    public int contextClosure(int set) {
        return isValid(set) ? meetAbove(examples, set, table.full()) : BAD_SET;
    }

    public int support(int set) {
        return isValid(set) ? countAbove(examples, set) : BAD_SET;
    }

    public int exceptionCount(int premise, int conclusion) {
        if (!isValid(premise) || !isValid(conclusion)) {
            return BAD_SET;
        }
        return countAbove(examples, premise) - countAbove(examples, premise | conclusion);
    }

    public int confidencePercent(int premise, int conclusion) {
        if (!isValid(premise) || !isValid(conclusion)) {
            return BAD_SET;
        }
        int supported = countAbove(examples, premise);
        return supported == 0 ? NONE : 100 * countAbove(examples, premise | conclusion) / supported;
    }

    public int questionCount() {
        return finishedExploration().premises.size();
    }

    public int questionPremise(int position) {
        return finishedExploration().premises.at(position);
    }

    public int questionConclusion(int position) {
        return finishedExploration().conclusions.at(position);
    }

    public int isAccepted(int position) {
        return finishedExploration().accepted.at(position);
    }

    public int appendText(int character) {
        if (character < 32 || character > 126) {
            return BAD_ARGUMENT;
        }
        if (text.size() >= MAX_TEXT) {
            return FULL;
        }
        text.append(character);
        return text.size();
    }

    public int clearText() {
        int previous = text.size();
        text.clear();
        return previous;
    }

    public int parseRules() {
        int wrongAt = parser.read(text, attributes);
        text.clear();
        if (wrongAt >= 0) {
            return SYNTAX_ERROR - wrongAt;
        }
        if (rules.size() + parser.count > MAX_RULES) {
            return FULL;
        }
        rules.appendAll(parser.parsed);
        recordEdit();
        return parser.count;
    }

    public int formatRules() {
        formatted.clear();
        for (int rule = 0; rule < rules.size(); rule++) {
            if (rule > 0) {
                formatted.append(',');
            }
            formatSet(rules.premiseAt(rule));
            formatted.append('>');
            formatSet(rules.conclusionAt(rule));
        }
        return formatted.size();
    }

    public int formattedCharacter(int position) {
        return formatted.at(position);
    }

    public int undo() {
        if (history.undoable() == 0) {
            return EMPTY;
        }
        history.stepBack(rules);
        rulesChanged();
        return history.undoable();
    }

    public int redo() {
        if (history.redoable() == 0) {
            return EMPTY;
        }
        history.stepForward(rules);
        rulesChanged();
        return history.redoable();
    }

    public int save() {
        snapshot.exists = true;
        snapshot.attributes = attributes;
        snapshot.rules.copyFrom(rules);
        snapshot.examples.copyFrom(examples);
        return rules.size();
    }

    public int equalsSnapshot() {
        if (!snapshot.exists) {
            return EMPTY;
        }
        return flag(snapshot.attributes == attributes
                && snapshot.rules.sameAs(rules)
                && snapshot.examples.sameAs(examples));
    }

    public int restore() {
        if (!snapshot.exists) {
            return EMPTY;
        }
        attributes = snapshot.attributes;
        rules.copyFrom(snapshot.rules);
        examples.copyFrom(snapshot.examples);
        startAfresh();
        return rules.size();
    }

    public int createBuffer(int buffer, int type, int size) {
        Buffer made = bufferAt(buffer);
        if (made == null || !isType(type) || size > MAX_BUFFER) {
            return BAD_ARGUMENT;
        }
        if (size < 0) {
            return NEGATIVE_SIZE;
        }
        made.make(type, size);
        return 1;
    }

    public int writeBuffer(int buffer, int position, long value) {
        Buffer written = bufferAt(buffer);
        if (written == null) {
            return BAD_ARGUMENT;
        }
        if (!written.exists) {
            return MISSING_BUFFER;
        }
        if (!written.has(position, 1)) {
            return OUT_OF_BOUNDS;
        }
        written.write(position, value);
        return 1;
    }

    public long readBuffer(int buffer, int position) {
        Buffer from = bufferAt(buffer);
        return from == null || !from.exists ? NO_VALUE : from.read(position);
    }

    public int copyBuffer(int source, int sourcePosition, int target, int targetPosition, int count) {
        Buffer from = bufferAt(source);
        Buffer to = bufferAt(target);
        if (from == null || to == null) {
            return BAD_ARGUMENT;
        }
        if (!from.exists || !to.exists) {
            return MISSING_BUFFER;
        }
        if (from.type != to.type) {
            return TYPE_MISMATCH;
        }
        if (!from.has(sourcePosition, count) || !to.has(targetPosition, count)) {
            return OUT_OF_BOUNDS;
        }
        System.arraycopy(from.cells, sourcePosition, to.cells, targetPosition, count);
        return count;
    }

    public int exportClosures(int buffer, int type) {
        Buffer filled = bufferAt(buffer);
        if (filled == null || !isType(type)) {
            return BAD_ARGUMENT;
        }
        int sets = table.full() + 1;
        filled.make(type, sets);
        for (int set = 0; set < sets; set++) {
            filled.write(set, table.closureOf(set));
        }
        return sets;
    }

    public int firstDifference(int buffer) {
        Buffer compared = bufferAt(buffer);
        if (compared == null) {
            return BAD_ARGUMENT;
        }
        if (!compared.exists) {
            return MISSING_BUFFER;
        }
        int end = Math.min(compared.size, table.full() + 1);
        for (int set = 0; set < end; set++) {
            if (compared.read(set) != table.closureOf(set)) {
                return set;
            }
        }
        return NONE;
    }

    public int randomClosureSum(int count, int seed) {
        if (count < 1 || count > MAX_DRAWS) {
            return BAD_ARGUMENT;
        }
        int state = seed;
        int sum = 0;
        for (int draw = 0; draw < count; draw++) {
            state = state * 1103515245 + 12345;
            int set = ((state & 0x7fffffff) / 65536) % (1 << attributes);
            sum += Integer.bitCount(table.closureOf(set));
        }
        return sum;
    }

    public int undoCount() {
        return history.undoable();
    }

    public int redoCount() {
        return history.redoable();
    }

    private boolean isValid(int set) {
        return set >= 0 && set <= table.full();
    }

    private boolean isAttribute(int attribute) {
        return attribute >= 0 && attribute < attributes;
    }

    private void recordEdit() {
        history.record(rules);
        rulesChanged();
    }

    private void startAfresh() {
        history.begin(rules);
        rulesChanged();
    }

    private void rulesChanged() {
        table.rebuild(attributes, rules);
        learnerIsStale = true;
        explorationIsStale = true;
    }

    private IntRow listGenerators(int attribute) {
        int wanted = 1 << attribute;
        return lattice.listMinimal(table, wanted, table.full() & ~wanted);
    }

    private Learner finishedLearner() {
        if (learnerIsStale) {
            learner.learn(table);
            learnerIsStale = false;
        }
        return learner;
    }

    private Exploration finishedExploration() {
        if (explorationIsStale) {
            exploration.explore(table, examples);
            explorationIsStale = false;
        }
        return exploration;
    }

    private void formatSet(int set) {
        for (int a = 0; a < MAX_ATTRIBUTES; a++) {
            if (hasBit(set, a)) {
                formatted.append('a' + a);
            }
        }
    }

    private Buffer bufferAt(int number) {
        return number >= 0 && number < buffers.length ? buffers[number] : null;
    }

    private static boolean isType(int type) {
        return type == TYPE_BYTE || type == TYPE_INT || type == TYPE_LONG;
    }

    private static int flag(boolean yes) {
        return yes ? 1 : 0;
    }

    private static boolean hasBit(int set, int bit) {
        return ((set >> bit) & 1) == 1;
    }

    private static boolean isSubset(int part, int whole) {
        return (part & ~whole) == 0;
    }

    private static boolean isProperSubset(int part, int whole) {
        return part != whole && isSubset(part, whole);
    }

    /** The intersection of all sets of the row that contain the set, or full if there is none. */
    private static int meetAbove(IntRow row, int set, int full) {
        int meet = full;
        for (int i = 0; i < row.size(); i++) {
            if (isSubset(set, row.at(i))) {
                meet &= row.at(i);
            }
        }
        return meet;
    }

    private static int countAbove(IntRow row, int set) {
        int count = 0;
        for (int i = 0; i < row.size(); i++) {
            if (isSubset(set, row.at(i))) {
                count++;
            }
        }
        return count;
    }

    /** Numbers in a row of fixed room; it looks at every index, so that no caller has to. */
    private static final class IntRow {
        private final int[] items;
        private int size;

        IntRow(int room) {
            items = new int[Math.max(room, 0)];
        }

        int size() {
            return size;
        }

        void clear() {
            size = 0;
        }

        void append(int value) {
            if (size < items.length) {
                items[size] = value;
                size++;
            }
        }

        void removeEnd() {
            if (size > 0) {
                size--;
            }
        }

        int at(int position) {
            return position >= 0 && position < size ? items[position] : NONE;
        }

        void put(int position, int value) {
            if (position >= 0 && position < size) {
                items[position] = value;
            }
        }

        int positionOf(int value) {
            for (int i = 0; i < size; i++) {
                if (items[i] == value) {
                    return i;
                }
            }
            return NONE;
        }

        void fill(int count, int value) {
            size = Math.max(0, Math.min(count, items.length));
            for (int i = 0; i < size; i++) {
                items[i] = value;
            }
        }

        void copyFrom(IntRow other) {
            clear();
            for (int i = 0; i < other.size; i++) {
                append(other.at(i));
            }
        }

        boolean sameAs(IntRow other) {
            if (size != other.size) {
                return false;
            }
            for (int i = 0; i < size; i++) {
                if (items[i] != other.at(i)) {
                    return false;
                }
            }
            return true;
        }
    }

    /** The rules in their order, each packed into one number so that lists are cheap to copy. */
    private static final class RuleList {
        private static final int SET_MASK = MAX_SETS - 1;
        private static final int FLAG_SHIFT = 2 * MAX_ATTRIBUTES;

        private final IntRow codes = new IntRow(MAX_RULES);

        int size() {
            return codes.size();
        }

        boolean has(int rule) {
            return rule >= 0 && rule < codes.size;
        }

        int premiseAt(int rule) {
            return has(rule) ? codes.at(rule) & SET_MASK : NONE;
        }

        int conclusionAt(int rule) {
            return has(rule) ? (codes.at(rule) >> MAX_ATTRIBUTES) & SET_MASK : NONE;
        }

        int flagAt(int rule) {
            return has(rule) ? codes.at(rule) >> FLAG_SHIFT : NONE;
        }

        void append(int premise, int conclusion) {
            codes.append(pack(premise, conclusion, 1));
        }

        void appendAll(RuleList more) {
            for (int rule = 0; rule < more.size(); rule++) {
                codes.append(more.codes.at(rule));
            }
        }

        void replace(int rule, int premise, int conclusion, int enabled) {
            codes.put(rule, pack(premise, conclusion, enabled));
        }

        void removeEnd() {
            codes.removeEnd();
        }

        void clear() {
            codes.clear();
        }

        void copyFrom(RuleList other) {
            codes.copyFrom(other.codes);
        }

        boolean sameAs(RuleList other) {
            return codes.sameAs(other.codes);
        }

        int enabledMask() {
            int mask = 0;
            for (int rule = 0; rule < size(); rule++) {
                mask |= flagAt(rule) << rule;
            }
            return mask;
        }

        /** The lowest rule of the mask that would add something to the set, or NONE. */
        int firingRule(int mask, int set) {
            for (int rule = 0; rule < size(); rule++) {
                if (hasBit(mask, rule)
                        && isSubset(premiseAt(rule), set)
                        && !isSubset(conclusionAt(rule), set)) {
                    return rule;
                }
            }
            return NONE;
        }

        /** Whether the implication of a rule is entailed by the rules of the mask alone. */
        boolean followsFrom(int mask, int rule) {
            int current = premiseAt(rule);
            int firing = firingRule(mask, current);
            // a rule fires at most once, so there are at most MAX_RULES firings
            for (int fired = 0; fired < MAX_RULES && firing >= 0; fired++) {
                current |= conclusionAt(firing);
                firing = firingRule(mask, current);
            }
            return isSubset(conclusionAt(rule), current);
        }

        private static int pack(int premise, int conclusion, int enabled) {
            return premise | conclusion << MAX_ATTRIBUTES | enabled << FLAG_SHIFT;
        }
    }

    /** The closure of every set, made anew whenever the rules change. */
    private static final class ClosureTable {
        private final IntRow closures = new IntRow(MAX_SETS);
        private final IntRow firingRules = new IntRow(MAX_SETS);
        private int attributes;

        void rebuild(int attributeNumber, RuleList rules) {
            attributes = attributeNumber;
            closures.fill(1 << attributes, 0);
            firingRules.fill(1 << attributes, NONE);
            int enabled = rules.enabledMask();
            // Firing makes a set's number greater, so from the top down what it leads to is known.
            for (int set = full(); set >= 0; set--) {
                int rule = rules.firingRule(enabled, set);
                firingRules.put(set, rule);
                closures.put(set, rule < 0 ? set : closures.at(set | rules.conclusionAt(rule)));
            }
        }

        int full() {
            return (1 << attributes) - 1;
        }

        int closureOf(int set) {
            return closures.at(set);
        }

        boolean isFixed(int set) {
            return closures.at(set) == set;
        }

        boolean reaches(int set, int wanted) {
            return isSubset(wanted, closures.at(set));
        }

        /** The rule that fires first in forward chaining from the set, or NONE. */
        int firingRuleOf(int set) {
            return firingRules.at(set);
        }
    }

    /** What the family of closed sets tells: its order, its keys and its canonical basis. */
    private static final class Lattice {
        private final IntRow found = new IntRow(MAX_SETS);
        private final IntRow chains = new IntRow(MAX_SETS);

        IntRow listClosed(ClosureTable table) {
            found.clear();
            for (int set = 0; set <= table.full(); set++) {
                if (table.isFixed(set)) {
                    found.append(set);
                }
            }
            return found;
        }

        IntRow listIrreducible(ClosureTable table) {
            found.clear();
            for (int set = 0; set <= table.full(); set++) {
                if (table.isFixed(set) && coversOf(table, set) == 1) {
                    found.append(set);
                }
            }
            return found;
        }

        /** A cover is counted once, at the lowest attribute that it has beyond the closed set. */
        int coversOf(ClosureTable table, int set) {
            int covers = 0;
            for (int a = 0; a < table.attributes; a++) {
                int above = table.closureOf(set | 1 << a);
                int gained = above & ~set;
                if ((gained & -gained) == 1 << a && isCover(table, set, above)) {
                    covers++;
                }
            }
            return covers;
        }

        /** A closed set between the two would be the closure of the lower one and some attribute. */
        private static boolean isCover(ClosureTable table, int set, int above) {
            for (int a = 0; a < table.attributes; a++) {
                if (hasBit(above & ~set, a) && table.closureOf(set | 1 << a) != above) {
                    return false;
                }
            }
            return true;
        }

        /** For every set in turn, the longest chain among the closed sets inside it. */
        int longestChain(ClosureTable table) {
            chains.fill(table.full() + 1, 0);
            for (int set = 0; set <= table.full(); set++) {
                int longest = 0;
                for (int a = 0; a < table.attributes; a++) {
                    if (hasBit(set, a)) {
                        longest = Math.max(longest, chains.at(set & ~(1 << a)));
                    }
                }
                chains.put(set, longest + flag(table.isFixed(set)));
            }
            return chains.at(table.full());
        }

        /** The minimal sets inside the allowed attributes whose closure contains what is wanted. */
        IntRow listMinimal(ClosureTable table, int wanted, int allowed) {
            found.clear();
            for (int set = 0; set <= table.full(); set++) {
                if (isSubset(set, allowed)
                        && table.reaches(set, wanted)
                        && isMinimal(table, set, wanted)) {
                    found.append(set);
                }
            }
            return found;
        }

        /** Closures grow with their sets, so the subsets with one attribute less tell enough. */
        private static boolean isMinimal(ClosureTable table, int set, int wanted) {
            for (int a = 0; a < table.attributes; a++) {
                if (hasBit(set, a) && table.reaches(set & ~(1 << a), wanted)) {
                    return false;
                }
            }
            return true;
        }

        /** A proper subset has a lower number, so all that matter are found before the set. */
        IntRow listPseudoClosed(ClosureTable table) {
            found.clear();
            for (int set = 0; set <= table.full(); set++) {
                if (!table.isFixed(set) && containsClosuresFound(table, set)) {
                    found.append(set);
                }
            }
            return found;
        }

        private boolean containsClosuresFound(ClosureTable table, int set) {
            for (int i = 0; i < found.size(); i++) {
                int below = found.at(i);
                if (isProperSubset(below, set) && !isSubset(table.closureOf(below), set)) {
                    return false;
                }
            }
            return true;
        }
    }

    /** The HORN learner; the closure table is the teacher that answers its queries. */
    private static final class Learner {
        private final IntRow premises = new IntRow(MAX_SETS);
        private final IntRow conclusions = new IntRow(MAX_SETS);
        private final IntRow counterexamples = new IntRow(MAX_ROUNDS);
        private final IntRow queries = new IntRow(MAX_SETS);
        private int positives;

        void learn(ClosureTable teacher) {
            premises.clear();
            conclusions.clear();
            counterexamples.clear();
            queries.clear();
            positives = 0;
            for (int round = 0; round < MAX_ROUNDS; round++) {
                int found = equivalenceQuery(teacher);
                if (found < 0) {
                    return;
                }
                counterexamples.append(found);
                if (teacher.isFixed(found)) {
                    positives++;
                    learnFromPositive(found);
                } else {
                    learnFromNegative(teacher, found);
                }
            }
        }

        private int equivalenceQuery(ClosureTable teacher) {
            for (int set = 0; set <= teacher.full(); set++) {
                if (teacher.isFixed(set) != satisfiesHypothesis(set)) {
                    return set;
                }
            }
            return NONE;
        }

        private boolean satisfiesHypothesis(int set) {
            for (int i = 0; i < premises.size(); i++) {
                if (isSubset(premises.at(i), set) && !isSubset(conclusions.at(i), set)) {
                    return false;
                }
            }
            return true;
        }

        private void learnFromPositive(int found) {
            for (int i = 0; i < premises.size(); i++) {
                if (isSubset(premises.at(i), found)) {
                    conclusions.put(i, conclusions.at(i) & found);
                }
            }
        }

        private void learnFromNegative(ClosureTable teacher, int found) {
            for (int i = 0; i < premises.size(); i++) {
                int common = premises.at(i) & found;
                if (common != premises.at(i) && !membershipQuery(teacher, common)) {
                    premises.put(i, common);
                    conclusions.put(i, teacher.full() & ~common);
                    return;
                }
            }
            premises.append(found);
            conclusions.append(teacher.full() & ~found);
        }

        private boolean membershipQuery(ClosureTable teacher, int set) {
            if (queries.positionOf(set) < 0) {
                queries.append(set);
            }
            return teacher.isFixed(set);
        }
    }

    /** Attribute exploration; the closure table is the expert that answers its questions. */
    private static final class Exploration {
        private final IntRow known = new IntRow(MAX_EXPLORED);
        private final IntRow premises = new IntRow(MAX_QUESTIONS);
        private final IntRow conclusions = new IntRow(MAX_QUESTIONS);
        private final IntRow accepted = new IntRow(MAX_QUESTIONS);

        void explore(ClosureTable expert, IntRow examples) {
            premises.clear();
            conclusions.clear();
            accepted.clear();
            known.clear();
            for (int i = 0; i < examples.size(); i++) {
                if (expert.isFixed(examples.at(i))) {
                    known.append(examples.at(i));
                }
            }
            for (int set = 0; set <= expert.full(); set++) {
                if (!breaksAccepted(set)) {
                    examine(expert, set);
                }
            }
        }

        private boolean breaksAccepted(int set) {
            for (int i = 0; i < premises.size(); i++) {
                if (accepted.at(i) == 1
                        && isProperSubset(premises.at(i), set)
                        && !isSubset(conclusions.at(i), set)) {
                    return true;
                }
            }
            return false;
        }

        private void examine(ClosureTable expert, int set) {
            // at most two questions are asked about a set; the bound only shows that this ends
            for (int asked = 0; asked < MAX_SETS; asked++) {
                int closed = meetAbove(known, set, expert.full());
                if (closed == set) {
                    return;
                }
                boolean holds = expert.reaches(set, closed);
                premises.append(set);
                conclusions.append(closed);
                accepted.append(flag(holds));
                if (holds) {
                    return;
                }
                known.append(expert.closureOf(set));
            }
        }
    }

    /** The states of the rules after each remembered edit, with the one before the oldest. */
    private static final class History {
        private static final int STATES = MAX_EDITS + 1;

        private final IntRow sizes = new IntRow(STATES);
        // one state after the other, each with room for all rules
        private final IntRow codes = new IntRow(STATES * MAX_RULES);
        private int current;
        private int latest;

        void begin(RuleList rules) {
            current = 0;
            latest = 0;
            sizes.fill(STATES, 0);
            codes.fill(STATES * MAX_RULES, 0);
            keep(rules);
        }

        void record(RuleList rules) {
            if (current >= MAX_EDITS) {
                forgetOldest();
            } else {
                current++;
            }
            latest = current;
            keep(rules);
        }

        void stepBack(RuleList rules) {
            if (current > 0) {
                current--;
                bringBack(rules);
            }
        }

        void stepForward(RuleList rules) {
            if (current < latest) {
                current++;
                bringBack(rules);
            }
        }

        int undoable() {
            return current;
        }

        int redoable() {
            return latest - current;
        }

        private void keep(RuleList rules) {
            sizes.put(current, rules.size());
            for (int rule = 0; rule < rules.size(); rule++) {
                codes.put(current * MAX_RULES + rule, rules.codes.at(rule));
            }
        }

        private void bringBack(RuleList rules) {
            rules.clear();
            for (int rule = 0; rule < sizes.at(current); rule++) {
                rules.codes.append(codes.at(current * MAX_RULES + rule));
            }
        }

        /** Every state moves one place down, over the one before it. */
        private void forgetOldest() {
            for (int state = 1; state < STATES; state++) {
                sizes.put(state - 1, sizes.at(state));
            }
            for (int i = MAX_RULES; i < STATES * MAX_RULES; i++) {
                codes.put(i - MAX_RULES, codes.at(i));
            }
        }
    }

    private static final class Snapshot {
        private boolean exists;
        private int attributes;
        private final RuleList rules = new RuleList();
        private final IntRow examples = new IntRow(MAX_EXAMPLES);
    }

    /** Reads a text of rules; a rule is a set, an arrow and a set, and commas part the rules. */
    private static final class RuleParser {
        private final RuleList parsed = new RuleList();
        // counts every rule of the text, also those for which the list has no room
        private int count;
        private int premise;
        private int set;
        private boolean afterArrow;

        /** Returns the position at which the text goes wrong, or NONE if it is a list of rules. */
        int read(IntRow text, int attributes) {
            parsed.clear();
            count = 0;
            set = 0;
            afterArrow = false;
            for (int p = 0; p < text.size(); p++) {
                if (!take(text.at(p), attributes)) {
                    return p;
                }
            }
            if (!afterArrow) {
                return text.size();
            }
            endRule();
            return NONE;
        }

        private boolean take(int character, int attributes) {
            if (character == '>' && !afterArrow) {
                premise = set;
                set = 0;
                afterArrow = true;
                return true;
            }
            if (character == ',' && afterArrow) {
                endRule();
                return true;
            }
            int attribute = character - 'a';
            if (attribute < 0 || attribute >= attributes || set >= 1 << attribute) {
                return false;
            }
            set |= 1 << attribute;
            return true;
        }

        private void endRule() {
            parsed.append(premise, set);
            count++;
            set = 0;
            afterArrow = false;
        }
    }

    /** A buffer of any element type; what a long holds after the cast is what the type holds. */
    private static final class Buffer {
        private final long[] cells = new long[MAX_BUFFER];
        private boolean exists;
        private int type;
        private int size;

        void make(int elementType, int elements) {
            exists = true;
            type = elementType;
            size = Math.max(0, Math.min(elements, cells.length));
            for (int i = 0; i < cells.length; i++) {
                cells[i] = 0L;
            }
        }

        boolean has(int position, int count) {
            return position >= 0 && count >= 0 && (long) position + count <= size;
        }

        long read(int position) {
            return has(position, 1) ? cells[position] : NO_VALUE;
        }

        void write(int position, long value) {
            if (has(position, 1)) {
                cells[position] = fit(value);
            }
        }

        private long fit(long value) {
            if (type == TYPE_BYTE) {
                return (byte) value;
            }
            return type == TYPE_INT ? (int) value : value;
        }
    }
}
