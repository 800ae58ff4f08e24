/** Promises 1 to 16: the object, its rules, closure and forward chaining. */
public final class RulesTest {
    public static void main(String[] args) {
        newObject();
        reset();
        addRule();
        removeLastRule();
        setEnabled();
        setRule();
        readRules();
        closure();
        entails();
        forwardChaining();
        Due.end();
    }

    private static void due(String call, long got, long want) {
        Due.due(call, got, want);
    }

    private static void newObject() {
        HornRuleWorkbench w = new HornRuleWorkbench();
        due("1 attributeCount", w.attributeCount(), 4);
        due("1 ruleCount", w.ruleCount(), 0);
        due("1 exampleCount", w.exampleCount(), 0);
        due("1 undoCount", w.undoCount(), 0);
        due("1 redoCount", w.redoCount(), 0);
        due("1 clearText", w.clearText(), 0);
        due("1 formattedCharacter", w.formattedCharacter(0), -2);
        due("1 equalsSnapshot", w.equalsSnapshot(), -4);
        due("1 readBuffer", w.readBuffer(0, 0), Long.MIN_VALUE);
        due("1 closure of full", w.closure(15), 15);
        due("1 closure of 16", w.closure(16), -1);
        HornRuleWorkbench other = new HornRuleWorkbench();
        other.addRule(1, 2);
        other.addExample(3);
        due("1 objects share nothing", w.ruleCount() + w.exampleCount(), 0);
    }

    private static void reset() {
        HornRuleWorkbench w = new HornRuleWorkbench();
        w.addRule(1, 2);
        w.addRule(2, 4);
        w.undo();
        w.addExample(5);
        w.formatRules();
        w.save();
        w.appendText('a');
        w.createBuffer(1, 1, 2);
        for (int bad : new int[] {0, 7, -1, Integer.MIN_VALUE, Integer.MAX_VALUE}) {
            due("2 reset(" + bad + ")", w.reset(bad), -5);
        }
        due("2 a wrong reset leaves the rules", w.ruleCount(), 1);
        due("2 a wrong reset leaves the edits", w.undoCount() * 10 + w.redoCount(), 11);
        due("2 a wrong reset leaves n", w.attributeCount(), 4);
        due("2 reset(6)", w.reset(6), 4);
        due("3 attributeCount", w.attributeCount(), 6);
        due("2 rules are removed", w.ruleCount(), 0);
        due("2 closures follow", w.closure(1), 1);
        due("2 the full set is 63", w.closure(63), 63);
        due("2 64 is no set", w.closure(64), -1);
        due("2 examples are removed", w.exampleCount(), 0);
        due("2 no edit to undo", w.undo(), -4);
        due("2 no edit to redo", w.redo(), -4);
        due("2 the formatted text stays", w.formattedCharacter(0), 'a');
        due("2 the buffers stay", w.readBuffer(1, 1), 0);
        due("2 the text buffer stays", w.appendText('>'), 2);
        due("2 the snapshot stays", w.restore(), 1);
        due("2 the snapshot's n", w.attributeCount(), 4);
        due("2 reset to the same n", w.reset(4), 4);
        due("2 reset(1)", w.reset(1), 4);
        due("2 1 is full", w.closure(1), 1);
        due("2 2 is no set", w.closure(2), -1);
        due("2 reset answers the previous n", w.reset(2), 1);
    }

    private static void addRule() {
        HornRuleWorkbench w = new HornRuleWorkbench();
        due("4 premise -1", w.addRule(-1, 0), -1);
        due("4 conclusion -1", w.addRule(0, -1), -1);
        due("4 premise 16", w.addRule(16, 0), -1);
        due("4 conclusion 16", w.addRule(0, 16), -1);
        due("4 no rule came of it", w.ruleCount(), 0);
        due("4 nor an edit", w.undoCount(), 0);
        for (int i = 0; i < 10; i++) {
            due("4 addRule " + i, w.addRule(i, 15 - i), i);
            due("4 it is enabled", w.isEnabled(i), 1);
        }
        due("4 the 11th", w.addRule(1, 1), -3);
        due("4 BAD_SET before FULL", w.addRule(16, 1), -1);
        due("4 BAD_SET before FULL", w.addRule(1, 16), -1);
        due("8 ruleCount", w.ruleCount(), 10);
        due("4 edits", w.undoCount(), 10);
    }

    private static void removeLastRule() {
        HornRuleWorkbench w = new HornRuleWorkbench();
        due("5 nothing to remove", w.removeLastRule(), -4);
        due("5 which is no edit", w.undoCount(), 0);
        w.addRule(1, 2);
        w.addRule(2, 4);
        w.addRule(4, 8);
        w.setEnabled(2, 0);
        due("5 two remain", w.removeLastRule(), 2);
        due("5 the last is gone", w.premise(2), -2);
        due("5 the others stay", w.premise(1), 2);
        due("5 undone", w.undo(), 4);
        due("5 the flag comes back", w.isEnabled(2), 0);
        due("5 the premise comes back", w.premise(2), 4);
        due("5 the conclusion comes back", w.conclusion(2), 8);
        w.removeLastRule();
        due("5 one remains", w.removeLastRule(), 1);
        due("5 none remains", w.removeLastRule(), 0);
        due("5 nothing more", w.removeLastRule(), -4);
    }

    private static void setEnabled() {
        HornRuleWorkbench w = new HornRuleWorkbench();
        due("6 no rule 0", w.setEnabled(0, 1), -2);
        w.addRule(1, 2);
        w.addRule(2, 4);
        due("6 NONE before BAD_ARGUMENT", w.setEnabled(2, 7), -2);
        due("6 rule -1", w.setEnabled(-1, 1), -2);
        due("6 flag 2", w.setEnabled(0, 2), -5);
        due("6 flag -1", w.setEnabled(0, -1), -5);
        due("6 the flag stayed", w.isEnabled(0), 1);
        due("6 disable", w.setEnabled(0, 0), 1);
        due("11 isEnabled", w.isEnabled(0), 0);
        due("6 no effect of a disabled rule", w.closure(1), 1);
        due("6 the other rule is as it was", w.closure(2), 6);
        due("6 disable again", w.setEnabled(0, 0), 0);
        due("6 which is no edit", w.undoCount(), 3);
        w.undo();
        due("6 a call that changes nothing", w.setEnabled(0, 1), 1);
        due("6 keeps what can be redone", w.redoCount(), 1);
        w.redo();
        due("6 enable", w.setEnabled(0, 1), 0);
        due("6 it acts again", w.closure(1), 7);
    }

    private static void setRule() {
        HornRuleWorkbench w = new HornRuleWorkbench();
        due("7 no rule 0", w.setRule(0, 0, 0), -2);
        w.addRule(1, 2);
        w.setEnabled(0, 0);
        due("7 NONE before BAD_SET", w.setRule(1, 16, 0), -2);
        due("7 rule -1", w.setRule(-1, 1, 2), -2);
        due("7 premise 16", w.setRule(0, 16, 0), -1);
        due("7 premise -1", w.setRule(0, -1, 0), -1);
        due("7 conclusion 16", w.setRule(0, 1, 16), -1);
        due("7 conclusion -1", w.setRule(0, 1, -1), -1);
        due("7 the same", w.setRule(0, 1, 2), 0);
        due("7 which is no edit", w.undoCount(), 2);
        due("7 another conclusion", w.setRule(0, 1, 4), 1);
        due("7 another premise", w.setRule(0, 2, 4), 1);
        due("7 the flag stays", w.isEnabled(0), 0);
        due("9 premise", w.premise(0), 2);
        due("10 conclusion", w.conclusion(0), 4);
        due("7 two edits more", w.undoCount(), 4);
        w.undo();
        due("7 undone", w.premise(0), 1);
        due("7 the same again", w.setRule(0, 1, 4), 0);
        due("7 keeps what can be redone", w.redoCount(), 1);
        w.setEnabled(0, 1);
        due("7 it acts", w.closure(1), 5);
    }

    private static void readRules() {
        HornRuleWorkbench w = new HornRuleWorkbench();
        due("8 ruleCount", w.ruleCount(), 0);
        w.reset(6);
        w.addRule(63, 0);
        w.addRule(0, 63);
        w.setEnabled(1, 0);
        due("8 ruleCount counts disabled rules", w.ruleCount(), 2);
        due("9 premise(0)", w.premise(0), 63);
        due("9 premise(1), disabled", w.premise(1), 0);
        due("10 conclusion(0)", w.conclusion(0), 0);
        due("10 conclusion(1), disabled", w.conclusion(1), 63);
        due("11 isEnabled(0)", w.isEnabled(0), 1);
        due("11 isEnabled(1)", w.isEnabled(1), 0);
        for (int bad : new int[] {2, -1, Integer.MIN_VALUE, Integer.MAX_VALUE}) {
            due("9 premise(" + bad + ")", w.premise(bad), -2);
            due("10 conclusion(" + bad + ")", w.conclusion(bad), -2);
            due("11 isEnabled(" + bad + ")", w.isEnabled(bad), -2);
        }
    }

    private static void closure() {
        HornRuleWorkbench w = new HornRuleWorkbench();
        w.addRule(2, 4);
        w.addRule(1, 2);
        w.addRule(5, 8);
        due("12 a chain of rules", w.closure(1), 15);
        due("12 from the middle", w.closure(2), 6);
        due("12 a closed set", w.closure(12), 12);
        due("12 the empty set", w.closure(0), 0);
        due("12 not a set", w.closure(16), -1);
        due("12 not a set", w.closure(-1), -1);
        due("12 not a set", w.closure(Integer.MIN_VALUE), -1);
        due("12 not a set", w.closure(Integer.MAX_VALUE), -1);
        due("13 closed", w.isClosed(6), 1);
        due("13 closed", w.isClosed(0), 1);
        due("13 not closed", w.isClosed(2), 0);
        due("13 full", w.isClosed(15), 1);
        due("13 not a set", w.isClosed(16), -1);
        due("13 not a set", w.isClosed(-1), -1);
        w.addRule(0, 4);
        due("12 an empty premise", w.closure(0), 4);
        due("13 the empty set", w.isClosed(0), 0);
        w.setEnabled(3, 0);
        due("13 the empty set, the rule disabled", w.isClosed(0), 1);
    }

    private static void entails() {
        HornRuleWorkbench w = new HornRuleWorkbench();
        w.addRule(1, 2);
        w.addRule(2, 4);
        due("14 by two rules", w.entails(1, 4), 1);
        due("14 of all", w.entails(1, 7), 1);
        due("14 not of all", w.entails(1, 12), 0);
        due("14 nothing", w.entails(0, 0), 1);
        due("14 a part of the premise", w.entails(8, 8), 1);
        due("14 the other way", w.entails(4, 1), 0);
        due("14 premise 16", w.entails(16, 0), -1);
        due("14 conclusion 16", w.entails(0, 16), -1);
        due("14 premise -1", w.entails(-1, 0), -1);
        due("14 conclusion -1", w.entails(0, -1), -1);
        w.setEnabled(1, 0);
        due("14 a disabled rule", w.entails(1, 4), 0);
    }

    private static void forwardChaining() {
        HornRuleWorkbench w = new HornRuleWorkbench();
        w.addRule(2, 4);
        w.addRule(8, 8);
        w.addRule(1, 2);
        w.addRule(1, 6);
        due("15 rule 2, then the lowest, 0; 3 has nothing to add", w.firingCount(1), 2);
        due("16 step 0", w.firedRule(1, 0), 2);
        due("16 step 1", w.firedRule(1, 1), 0);
        due("16 step 2", w.firedRule(1, 2), -2);
        due("16 step -1", w.firedRule(1, -1), -2);
        due("16 step MAX", w.firedRule(1, Integer.MAX_VALUE), -2);
        due("16 step MIN", w.firedRule(1, Integer.MIN_VALUE), -2);
        due("16 BAD_SET first", w.firedRule(16, -1), -1);
        due("16 set -1", w.firedRule(-1, 0), -1);
        due("15 set 16", w.firingCount(16), -1);
        due("15 set -1", w.firingCount(-1), -1);
        due("15 a closed set", w.firingCount(8), 0);
        due("16 a closed set", w.firedRule(8, 0), -2);
        w.setEnabled(2, 0);
        due("15 a disabled rule does not fire", w.firingCount(1), 1);
        due("16 a disabled rule does not fire", w.firedRule(1, 0), 3);
        sixFire();
    }

    /** The rules stand so that the last one must fire first, and each adds one new attribute. */
    private static void sixFire() {
        HornRuleWorkbench w = new HornRuleWorkbench();
        w.reset(6);
        w.addRule(16, 32);
        w.addRule(8, 16);
        w.addRule(4, 8);
        w.addRule(2, 4);
        w.addRule(1, 2);
        w.addRule(0, 1);
        due("15 six firings", w.firingCount(0), 6);
        for (int step = 0; step < 6; step++) {
            due("16 step " + step, w.firedRule(0, step), 5 - step);
        }
        due("16 step 6", w.firedRule(0, 6), -2);
    }
}
