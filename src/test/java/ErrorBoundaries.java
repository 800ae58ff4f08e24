import java.util.LinkedHashMap;
import java.util.Map;
import java.util.function.ToLongFunction;

/** The sentences about errors and constants that stand before the first promise. */
final class ErrorBoundaries extends Boundaries {
    private static final int MAX_EDITS = 12;

    static void run() {
        unchangedState();
        severalErrors();
        sets();
        elements();
        roomAndNothing();
        arguments();
        buffers();
    }

    /** All that can be seen of the state; the object is used up by it. */
    private static String stateOf(HornRuleWorkbench w) {
        StringBuilder state = new StringBuilder();
        state.append(w.equalsSnapshot()).append(' ').append(w.undoCount()).append(' ').append(w.redoCount());
        for (int i = 0; i < 10; i++) {
            state.append(' ').append(w.formattedCharacter(i));
        }
        for (int buffer = 0; buffer < 3; buffer++) {
            for (int i = 0; i < 5; i++) {
                state.append(' ').append(w.readBuffer(buffer, i));
            }
            w.writeBuffer(buffer, 0, 1L << 33 | 333);
            state.append(' ').append(w.readBuffer(buffer, 0)).append('\n');
        }
        addExamples(state, w);
        addRules(state, w);
        for (int step = 0; step <= MAX_EDITS && w.redo() >= 0; step++) {
            addRules(state, w);
        }
        for (int step = 0; step <= MAX_EDITS && w.undo() >= 0; step++) {
            addRules(state, w);
        }
        state.append(w.parseRules());
        addRules(state, w);
        state.append(w.restore());
        addExamples(state, w);
        addRules(state, w);
        return state.toString();
    }

    private static void addExamples(StringBuilder state, HornRuleWorkbench w) {
        int count = w.exampleCount();
        state.append(w.attributeCount()).append(' ').append(count);
        for (int i = 0; i < count; i++) {
            state.append(' ').append(w.example(i));
        }
        state.append('\n');
    }

    private static void addRules(StringBuilder state, HornRuleWorkbench w) {
        int count = w.ruleCount();
        for (int i = 0; i < count; i++) {
            state.append(w.premise(i)).append('>').append(w.conclusion(i)).append(':').append(w.isEnabled(i));
        }
        state.append('\n');
    }

    /** Ten rules and examples, 80 characters, an undone edit, a snapshot and two buffers. */
    private static HornRuleWorkbench full() {
        HornRuleWorkbench w = with(4, 1, 2, 2, 4);
        w.addExample(9);
        w.formatRules();
        w.save();
        parse(w, "c>a,d>a,c>b,d>b,ab>,ac>b,ad>b,>");
        w.setEnabled(9, 0);
        w.setEnabled(8, 0);
        w.undo();
        for (int i = 1; i < 10; i++) {
            w.addExample(i);
        }
        append(w, "a>b,".repeat(20));
        w.createBuffer(0, 0, 4);
        w.createBuffer(1, 1, 2);
        w.writeBuffer(0, 3, 44);
        w.writeBuffer(1, 1, 55);
        return w;
    }

    /** Calls that full() refuses. */
    private static Map<String, ToLongFunction<HornRuleWorkbench>> refused() {
        Map<String, ToLongFunction<HornRuleWorkbench>> calls = new LinkedHashMap<>();
        calls.put("reset(0)", w -> w.reset(0));
        calls.put("reset(7)", w -> w.reset(7));
        calls.put("addRule, premise", w -> w.addRule(16, 1));
        calls.put("addRule, conclusion", w -> w.addRule(1, 16));
        calls.put("addRule, full", w -> w.addRule(1, 1));
        calls.put("setEnabled, rule", w -> w.setEnabled(10, 0));
        calls.put("setEnabled, flag", w -> w.setEnabled(0, 2));
        calls.put("setRule, rule", w -> w.setRule(10, 3, 3));
        calls.put("setRule, premise", w -> w.setRule(0, 16, 3));
        calls.put("setRule, conclusion", w -> w.setRule(0, 3, 16));
        calls.put("queryBound(-1)", w -> w.queryBound(-1));
        calls.put("queryBound, overflow", w -> w.queryBound(2000000000));
        calls.put("addExample(16)", w -> w.addExample(16));
        calls.put("addExample, full", w -> w.addExample(0));
        calls.put("appendText(31)", w -> w.appendText(31));
        calls.put("appendText, full", w -> w.appendText('a'));
        calls.put("createBuffer, number", w -> w.createBuffer(3, 0, 1));
        calls.put("createBuffer, type", w -> w.createBuffer(0, 3, 1));
        calls.put("createBuffer(0, 1, 65)", w -> w.createBuffer(0, 1, 65));
        calls.put("createBuffer(0, 1, -1)", w -> w.createBuffer(0, 1, -1));
        calls.put("createBuffer(2, 1, -1)", w -> w.createBuffer(2, 1, -1));
        calls.put("writeBuffer, number", w -> w.writeBuffer(3, 0, 7));
        calls.put("writeBuffer, missing", w -> w.writeBuffer(2, 0, 7));
        calls.put("writeBuffer, position", w -> w.writeBuffer(0, 4, 7));
        calls.put("copyBuffer, number", w -> w.copyBuffer(0, 0, 3, 0, 1));
        calls.put("copyBuffer, missing", w -> w.copyBuffer(0, 0, 2, 0, 1));
        calls.put("copyBuffer, type", w -> w.copyBuffer(0, 3, 1, 0, 1));
        calls.put("copyBuffer, too long", w -> w.copyBuffer(0, 3, 0, 0, 2));
        calls.put("exportClosures, number", w -> w.exportClosures(3, 0));
        calls.put("exportClosures, type", w -> w.exportClosures(0, 3));
        calls.put("firstDifference, missing", w -> w.firstDifference(2));
        calls.put("randomClosureSum(21)", w -> w.randomClosureSum(21, 1));
        return calls;
    }

    private static void unchangedState() {
        says(0, "A method that returns an error code leaves the state unchanged, except where its description says"
                + " otherwise.");
        String before = stateOf(full());
        refused().forEach((name, call) -> {
            HornRuleWorkbench w = full();
            due(name + " is refused", call.applyAsLong(w) < 0 ? 1 : 0, 1);
            due(name + " leaves the state", stateOf(w).equals(before) ? 1 : 0, 1);
        });
        String empty = stateOf(new HornRuleWorkbench());
        HornRuleWorkbench w = new HornRuleWorkbench();
        due("removeLastRule", w.removeLastRule(), EMPTY);
        due("undo", w.undo(), EMPTY);
        due("redo", w.redo(), EMPTY);
        due("restore", w.restore(), EMPTY);
        due("equalsSnapshot", w.equalsSnapshot(), EMPTY);
        due("they leave the state", stateOf(w).equals(empty) ? 1 : 0, 1);
        HornRuleWorkbench wrong = full();
        HornRuleWorkbench cleared = full();
        due("parseRules", wrong.parseRules(), -180);
        cleared.clearText();
        due("parseRules empties the text alone", stateOf(wrong).equals(stateOf(cleared)) ? 1 : 0, 1);
    }

    private static void severalErrors() {
        says(0, "If several errors apply, the one that is listed first in the description of the method is returned.");
        HornRuleWorkbench w = full();
        due("addRule", w.addRule(16, 1), BAD_SET);
        due("addRule", w.addRule(1, -1), BAD_SET);
        due("setEnabled", w.setEnabled(10, 2), NONE);
        due("setRule", w.setRule(-1, 16, 16), NONE);
        due("firedRule", w.firedRule(16, -1), BAD_SET);
        due("addExample", w.addExample(16), BAD_SET);
        due("appendText", w.appendText(127), BAD_ARGUMENT);
        due("queryBound", w.queryBound(2000000001), BAD_ARGUMENT);
        due("parseRules", w.parseRules(), -180);
        due("confidencePercent", w.confidencePercent(15, 16), BAD_SET);
        due("createBuffer, number", w.createBuffer(3, 0, -1), BAD_ARGUMENT);
        due("createBuffer, type", w.createBuffer(0, 3, -1), BAD_ARGUMENT);
        due("writeBuffer, number", w.writeBuffer(3, -1, 0), BAD_ARGUMENT);
        due("writeBuffer, missing", w.writeBuffer(2, -1, 0), MISSING_BUFFER);
        due("copyBuffer, number", w.copyBuffer(2, -1, 3, -1, -1), BAD_ARGUMENT);
        due("copyBuffer, missing", w.copyBuffer(0, -1, 2, -1, -1), MISSING_BUFFER);
        due("copyBuffer, missing", w.copyBuffer(1, -1, 2, -1, -1), MISSING_BUFFER);
        due("copyBuffer, missing", w.copyBuffer(2, -1, 1, -1, -1), MISSING_BUFFER);
        due("copyBuffer, type", w.copyBuffer(0, -1, 1, -1, -1), TYPE_MISMATCH);
    }

    private static void sets() {
        says(0, "`BAD_SET = -1`: An attribute set is not valid, that is, not from 0 to 2^n - 1.");
        due("BAD_SET", HornRuleWorkbench.BAD_SET, -1);
        for (int n = 1; n <= 6; n++) {
            for (int set : new int[] {-1, 1 << n}) {
                HornRuleWorkbench w = with(n, 1, 1);
                due("addRule", w.addRule(set, 0), -1);
                due("addRule", w.addRule(0, set), -1);
                due("setRule", w.setRule(0, set, 0), -1);
                due("setRule", w.setRule(0, 0, set), -1);
                due("closure", w.closure(set), -1);
                due("isClosed", w.isClosed(set), -1);
                due("entails", w.entails(set, 0), -1);
                due("entails", w.entails(0, set), -1);
                due("firingCount", w.firingCount(set), -1);
                due("firedRule", w.firedRule(set, 0), -1);
                due("upperCoverCount", w.upperCoverCount(set), -1);
                due("queryPosition", w.queryPosition(set), -1);
                due("addExample", w.addExample(set), -1);
                due("contextClosure", w.contextClosure(set), -1);
                due("support", w.support(set), -1);
                due("exceptionCount", w.exceptionCount(set, 0), -1);
                due("exceptionCount", w.exceptionCount(0, set), -1);
                due("confidencePercent", w.confidencePercent(set, 0), -1);
                due("confidencePercent", w.confidencePercent(0, set), -1);
            }
        }
    }

    private static void elements() {
        says(0, "`NONE = -2`: There is no such element: a rule number, a position or an index does not exist.");
        due("NONE", HornRuleWorkbench.NONE, -2);
        for (int bad : new int[] {-1, 64, MIN, MAX}) {
            HornRuleWorkbench w = with(6, 1, 2);
            due("setEnabled", w.setEnabled(bad, 1), -2);
            due("setRule", w.setRule(bad, 1, 2), -2);
            due("premise", w.premise(bad), -2);
            due("conclusion", w.conclusion(bad), -2);
            due("isEnabled", w.isEnabled(bad), -2);
            due("firedRule", w.firedRule(1, bad), -2);
            due("closedSet", w.closedSet(bad), -2);
            due("irreducible", w.irreducible(bad), -2);
            due("minimalKey", w.minimalKey(bad), -2);
            due("generatorCount", w.generatorCount(bad), -2);
            due("generator", w.generator(bad, 0), -2);
            due("generator", w.generator(0, bad), -2);
            due("basisPremise", w.basisPremise(bad), -2);
            due("basisConclusion", w.basisConclusion(bad), -2);
            due("reducedPremise", w.reducedPremise(bad), -2);
            due("counterexample", w.counterexample(bad), -2);
            due("learnedPremise", w.learnedPremise(bad), -2);
            due("learnedConclusion", w.learnedConclusion(bad), -2);
            due("queriedSet", w.queriedSet(bad), -2);
            due("example", w.example(bad), -2);
            due("questionPremise", w.questionPremise(bad == 64 ? 128 : bad), -2);
            due("questionConclusion", w.questionConclusion(bad == 64 ? 128 : bad), -2);
            due("isAccepted", w.isAccepted(bad == 64 ? 128 : bad), -2);
            due("formattedCharacter", w.formattedCharacter(bad), -2);
        }
    }

    private static void roomAndNothing() {
        says(0, "`FULL = -3`: There is no room for another rule, example or character.");
        due("FULL", HornRuleWorkbench.FULL, -3);
        HornRuleWorkbench w = full();
        due("a rule", w.addRule(0, 0), -3);
        due("an example", w.addExample(0), -3);
        due("a character", w.appendText('a'), -3);
        w.clearText();
        due("a rule by a text", parse(w, ">"), -3);

        says(0, "`EMPTY = -4`: There is nothing to remove, undo, redo or restore.");
        due("EMPTY", HornRuleWorkbench.EMPTY, -4);
        HornRuleWorkbench u = new HornRuleWorkbench();
        due("removeLastRule", u.removeLastRule(), -4);
        due("undo", u.undo(), -4);
        due("redo", u.redo(), -4);
        due("restore", u.restore(), -4);
        due("equalsSnapshot", u.equalsSnapshot(), -4);
    }

    private static void arguments() {
        says(0, "`BAD_ARGUMENT = -5`: An argument other than a set or a position is out of range.");
        due("BAD_ARGUMENT", HornRuleWorkbench.BAD_ARGUMENT, -5);
        HornRuleWorkbench w = with(4, 1, 2);
        due("reset", w.reset(0), -5);
        due("reset", w.reset(7), -5);
        due("setEnabled", w.setEnabled(0, -1), -5);
        due("setEnabled", w.setEnabled(0, 2), -5);
        due("queryBound", w.queryBound(-1), -5);
        due("queryBound", w.queryBound(2000000001), -5);
        due("appendText", w.appendText(31), -5);
        due("appendText", w.appendText(127), -5);
        for (int bad : new int[] {-1, 3}) {
            due("createBuffer", w.createBuffer(bad, 0, 0), -5);
            due("createBuffer", w.createBuffer(0, bad, 0), -5);
            due("writeBuffer", w.writeBuffer(bad, 0, 0), -5);
            due("copyBuffer", w.copyBuffer(bad, 0, 0, 0, 0), -5);
            due("copyBuffer", w.copyBuffer(0, 0, bad, 0, 0), -5);
            due("exportClosures", w.exportClosures(bad, 0), -5);
            due("exportClosures", w.exportClosures(0, bad), -5);
            due("firstDifference", w.firstDifference(bad), -5);
        }
        due("createBuffer", w.createBuffer(0, 0, 65), -5);
        due("randomClosureSum", w.randomClosureSum(0, 0), -5);
        due("randomClosureSum", w.randomClosureSum(21, 0), -5);

        says(0, "`OVERFLOW = -6`: The result is not in the range of int.");
        due("OVERFLOW", HornRuleWorkbench.OVERFLOW, -6);
        due("1 times 5 times 429496729 is in range", w.queryBound(429496729), 2147483645);
        due("1 times 5 times 429496730 is not", w.queryBound(429496730), -6);
        due("nor is what would wrap around", w.queryBound(858993460), -6);
    }

    private static void buffers() {
        HornRuleWorkbench w = full();
        says(0, "`MISSING_BUFFER = -11`: The buffer is missing.");
        due("MISSING_BUFFER", HornRuleWorkbench.MISSING_BUFFER, -11);
        due("writeBuffer", w.writeBuffer(2, 0, 0), -11);
        due("copyBuffer", w.copyBuffer(2, 0, 0, 0, 0), -11);
        due("copyBuffer", w.copyBuffer(0, 0, 2, 0, 0), -11);
        due("firstDifference", w.firstDifference(2), -11);

        says(0, "`TYPE_MISMATCH = -12`: Two buffers have different element types.");
        due("TYPE_MISMATCH", HornRuleWorkbench.TYPE_MISMATCH, -12);
        for (int type = 0; type < 3; type++) {
            for (int other = 0; other < 3; other++) {
                HornRuleWorkbench u = new HornRuleWorkbench();
                u.createBuffer(0, type, 0);
                u.createBuffer(1, other, 0);
                due("copyBuffer", u.copyBuffer(0, 0, 1, 0, 0), type == other ? 0 : -12);
            }
        }

        says(0, "`OUT_OF_BOUNDS = -13`: A position is outside an array.");
        due("OUT_OF_BOUNDS", HornRuleWorkbench.OUT_OF_BOUNDS, -13);
        due("writeBuffer", w.writeBuffer(0, -1, 0), -13);
        due("writeBuffer", w.writeBuffer(0, 4, 0), -13);
        due("copyBuffer", w.copyBuffer(0, -1, 0, 0, 1), -13);
        due("copyBuffer", w.copyBuffer(0, 0, 0, 4, 1), -13);

        says(0, "`NEGATIVE_SIZE = -14`: The size of an array is negative.");
        due("NEGATIVE_SIZE", HornRuleWorkbench.NEGATIVE_SIZE, -14);
        due("size -1", w.createBuffer(2, 0, -1), -14);
        due("size MIN", w.createBuffer(2, 0, MIN), -14);
        due("size 0 is not", w.createBuffer(2, 0, 0), 1);

        says(0, "`NO_VALUE = Long.MIN_VALUE`: There is no such value.");
        due("NO_VALUE", HornRuleWorkbench.NO_VALUE, Long.MIN_VALUE);
        due("no such buffer", w.readBuffer(3, 0), Long.MIN_VALUE);
        due("a missing buffer", new HornRuleWorkbench().readBuffer(0, 0), Long.MIN_VALUE);
        due("no such position", w.readBuffer(0, 4), Long.MIN_VALUE);
    }
}
