/** The sentences of promises 1 to 16, a method for each promise. */
final class RuleBoundaries extends Boundaries {
    static void run() {
        newObject();
        reset();
        attributeCount();
        addRule();
        removeLastRule();
        setEnabled();
        setRule();
        ruleCount();
        premise();
        conclusion();
        isEnabled();
        closure();
        isClosed();
        entails();
        firingCount();
        firedRule();
    }

    private static void newObject() {
        says(1, "Creates a workbench with 4 attributes, no rules and no examples.");
        HornRuleWorkbench w = new HornRuleWorkbench();
        due("attributeCount", w.attributeCount(), 4);
        due("the full set", w.closure(15), 15);
        due("beyond the full set", w.closure(16), BAD_SET);
        due("ruleCount", w.ruleCount(), 0);
        due("premise(0)", w.premise(0), NONE);
        due("removeLastRule", w.removeLastRule(), EMPTY);
        due("exampleCount", w.exampleCount(), 0);
        due("example(0)", w.example(0), NONE);
        due("clearExamples", w.clearExamples(), 0);
    }

    private static void reset() {
        says(2, "Removes all rules and examples, forgets all edits, and sets the number of attributes.");
        for (int n = 1; n <= 6; n++) {
            HornRuleWorkbench w = new HornRuleWorkbench();
            for (int i = 0; i < 10; i++) {
                w.addRule(0, 15);
                w.addExample(i);
            }
            w.setEnabled(3, 0);
            w.setEnabled(4, 0);
            w.setEnabled(5, 0);
            w.undo();
            w.reset(n);
            due("ruleCount", w.ruleCount(), 0);
            due("no rule acts", w.closure(0), 0);
            due("exampleCount", w.exampleCount(), 0);
            due("no example counts", w.support(0), 0);
            due("undo", w.undo(), EMPTY);
            due("redo", w.redo(), EMPTY);
            due("undoCount", w.undoCount(), 0);
            due("redoCount", w.redoCount(), 0);
            due("attributeCount", w.attributeCount(), n);
            due("the first rule has number 0 again", w.addRule(0, 1), 0);
            due("the first example has number 0 again", w.addExample(1), 0);
            due("one edit can be undone", w.undo(), 0);
        }

        says(2, "The text buffer, the formatted text, the snapshot and the buffers stay.");
        HornRuleWorkbench w = with(4, 1, 2);
        w.addExample(9);
        w.formatRules();
        w.save();
        append(w, "a>b,".repeat(20));
        for (int buffer = 0; buffer < 3; buffer++) {
            w.createBuffer(buffer, buffer, 64);
            w.writeBuffer(buffer, 63, 100 + buffer);
        }
        w.reset(1);
        due("no room for the 81st character", w.appendText('a'), FULL);
        due("80 characters", w.clearText(), 80);
        dueRow("formattedCharacter", w::formattedCharacter, 'a', '>', 'b');
        for (int buffer = 0; buffer < 3; buffer++) {
            due("the last element", w.readBuffer(buffer, 63), 100 + buffer);
            due("no element more", w.readBuffer(buffer, 64), NO_VALUE);
        }
        due("equalsSnapshot", w.equalsSnapshot(), 0);
        due("restore", w.restore(), 1);
        due("the snapshot's n", w.attributeCount(), 4);
        due("the snapshot's rule", w.conclusion(0), 2);
        due("the snapshot's example", w.example(0), 9);

        says(2, "`n`: the new number of attributes, 1 to 6");
        for (int n = 1; n <= 6; n++) {
            due("reset(" + n + ")", new HornRuleWorkbench().reset(n), 4);
        }
        dueEach("reset", new HornRuleWorkbench()::reset, BAD_ARGUMENT, 0, 7);

        says(2, "Returns the previous number of attributes, or BAD_ARGUMENT if n is out of range.");
        w = new HornRuleWorkbench();
        due("reset(6)", w.reset(6), 4);
        due("reset(1)", w.reset(1), 6);
        due("reset(1) again", w.reset(1), 1);
        dueEach("reset", w::reset, BAD_ARGUMENT, 0, 7, 8, -1, -6, 64, 1 << 16 | 1, MIN, MAX);
        due("the refused calls set nothing", w.reset(5), 1);
    }

    private static void attributeCount() {
        says(3, "Returns the number of attributes, 1 to 6.");
        HornRuleWorkbench w = new HornRuleWorkbench();
        w.save();
        for (int n = 1; n <= 6; n++) {
            w.reset(n);
            due("after reset(" + n + ")", w.attributeCount(), n);
            w.reset(0);
            due("after reset(0)", w.attributeCount(), n);
            w.reset(7);
            due("after reset(7)", w.attributeCount(), n);
        }
        w.restore();
        due("after restore", w.attributeCount(), 4);
    }

    private static void addRule() {
        says(4, "Adds an enabled rule.");
        HornRuleWorkbench w = with(4, 1, 2);
        w.setEnabled(0, 0);
        w.removeLastRule();
        w.addRule(1, 2);
        due("where a disabled rule stood", w.isEnabled(0), 1);
        due("it acts", w.closure(1), 3);

        says(4, "Returns the number of the new rule; BAD_SET if the premise or the conclusion is not valid"
                + " (checked first); FULL if there are 10 rules.");
        for (int n : new int[] {1, 4, 6}) {
            HornRuleWorkbench u = with(n);
            int full = (1 << n) - 1;
            for (int i = 0; i < 10; i++) {
                dueEach("addRule, premise", set -> u.addRule(set, full), BAD_SET, notSets(n));
                dueEach("addRule, conclusion", set -> u.addRule(full, set), BAD_SET, notSets(n));
                due("addRule", u.addRule(full, full), i);
            }
            due("the 11th", u.addRule(0, 0), FULL);
            due("the 11th again", u.addRule(full, full), FULL);
            dueEach("full, premise", set -> u.addRule(set, 0), BAD_SET, notSets(n));
            dueEach("full, conclusion", set -> u.addRule(0, set), BAD_SET, notSets(n));
            u.removeLastRule();
            due("the 10th again", u.addRule(0, 0), 9);
        }
    }

    private static void removeLastRule() {
        says(5, "Removes the rule with the highest number.");
        HornRuleWorkbench w = withPairs();
        w.removeLastRule();
        for (int i = 0; i < 9; i++) {
            due("premise(" + i + ") stays", w.premise(i), PAIRS[i]);
        }
        due("rule 9 is gone", w.premise(9), NONE);
        due("it does not act", w.closure(24), 24);

        says(5, "Returns the number of rules that remain, or EMPTY if there are no rules.");
        HornRuleWorkbench u = withPairs();
        for (int remain = 9; remain >= 0; remain--) {
            due("removeLastRule", u.removeLastRule(), remain);
        }
        due("no rules", u.removeLastRule(), EMPTY);
        due("no rules, again", u.removeLastRule(), EMPTY);
        due("on a new object", new HornRuleWorkbench().removeLastRule(), EMPTY);
    }

    private static void setEnabled() {
        says(6, "Enables or disables a rule.");
        HornRuleWorkbench w = withPairs();
        w.setEnabled(9, 0);
        w.setEnabled(0, 0);
        for (int i = 0; i < 10; i++) {
            due("isEnabled(" + i + ")", w.isEnabled(i), i == 0 || i == 9 ? 0 : 1);
        }
        w.setEnabled(9, 1);
        due("isEnabled(9)", w.isEnabled(9), 1);
        due("isEnabled(0)", w.isEnabled(0), 0);
        due("premise(9) stays", w.premise(9), 24);
        due("conclusion(9) stays", w.conclusion(9), 32);

        says(6, "`enabled`: 1 to enable it, 0 to disable it");
        HornRuleWorkbench u = with(1, 0, 1);
        u.setEnabled(0, 0);
        due("after 0", u.closure(0), 0);
        u.setEnabled(0, 1);
        due("after 1", u.closure(0), 1);

        says(6, "Returns the previous flag, 1 or 0; NONE if there is no such rule (checked first);"
                + " BAD_ARGUMENT if enabled is neither 0 nor 1.");
        HornRuleWorkbench v = withPairs();
        due("1 to 1", v.setEnabled(9, 1), 1);
        due("1 to 0", v.setEnabled(9, 0), 1);
        due("0 to 0", v.setEnabled(9, 0), 0);
        due("0 to 1", v.setEnabled(9, 1), 0);
        for (int flag : new int[] {0, 1, 2, -1, MIN, MAX}) {
            dueEach("no such rule, " + flag, rule -> v.setEnabled(rule, flag), NONE, -1, 10, 11, MIN, MAX);
        }
        dueEach("wrong flag", flag -> v.setEnabled(9, flag), BAD_ARGUMENT, 2, -1, 3, 256, MIN, MAX);
        due("no rule at all", new HornRuleWorkbench().setEnabled(0, 1), NONE);
        due("no rule at all, wrong flag", new HornRuleWorkbench().setEnabled(0, 2), NONE);
    }

    private static void setRule() {
        says(7, "Replaces the premise and the conclusion of a rule.");
        HornRuleWorkbench w = withPairs();
        w.setRule(9, 63, 0);
        due("premise(9)", w.premise(9), 63);
        due("conclusion(9)", w.conclusion(9), 0);
        w.setRule(0, 0, 63);
        due("premise(0)", w.premise(0), 0);
        due("conclusion(0)", w.conclusion(0), 63);
        due("premise(1) stays", w.premise(1), 5);
        due("premise(8) stays", w.premise(8), 20);
        due("ten rules as before", w.ruleCount(), 10);

        says(7, "Its flag stays.");
        HornRuleWorkbench u = with(4, 1, 2, 1, 2);
        u.setEnabled(0, 0);
        u.setRule(0, 0, 15);
        u.setRule(1, 0, 4);
        due("disabled", u.isEnabled(0), 0);
        due("enabled", u.isEnabled(1), 1);
        due("the enabled one alone acts", u.closure(0), 4);

        says(7, "Returns 1 if the premise or the conclusion changed, 0 if both were the same; NONE if there is no"
                + " such rule (checked first); BAD_SET if the premise or the conclusion is not valid.");
        HornRuleWorkbench v = with(6, 1, 2);
        due("both the same", v.setRule(0, 1, 2), 0);
        due("the premise alone changed", v.setRule(0, 63, 2), 1);
        due("the conclusion alone changed", v.setRule(0, 63, 0), 1);
        due("both changed", v.setRule(0, 0, 63), 1);
        due("the same again", v.setRule(0, 0, 63), 0);
        dueEach("no such rule", rule -> v.setRule(rule, 0, 0), NONE, -1, 1, 2, MIN, MAX);
        dueEach("no such rule nor set", rule -> v.setRule(rule, 64, -1), NONE, -1, 1, 2, MIN, MAX);
        dueEach("premise", set -> v.setRule(0, set, 63), BAD_SET, notSets(6));
        dueEach("conclusion", set -> v.setRule(0, 0, set), BAD_SET, notSets(6));
        due("nothing came of it", v.setRule(0, 0, 63), 0);
    }

    private static void ruleCount() {
        says(8, "Returns the number of rules, enabled or not.");
        HornRuleWorkbench w = with(4, 1, 2, 2, 4);
        w.setEnabled(0, 0);
        due("one of two disabled", w.ruleCount(), 2);
        w.setEnabled(1, 0);
        due("both disabled", w.ruleCount(), 2);

        says(8, "Returns the number of rules, 0 to 10.");
        HornRuleWorkbench u = new HornRuleWorkbench();
        for (int i = 0; i < 10; i++) {
            due("before", u.ruleCount(), i);
            u.addRule(0, 0);
        }
        due("ten", u.ruleCount(), 10);
        u.addRule(0, 0);
        due("still ten", u.ruleCount(), 10);
        parse(u, "a>b");
        due("still ten", u.ruleCount(), 10);
        for (int i = 0; i < 11; i++) {
            u.removeLastRule();
        }
        due("none", u.ruleCount(), 0);
    }

    private static void premise() {
        says(9, "Returns the premise of a rule, enabled or not.");
        HornRuleWorkbench w = with(6, 63, 0, 0, 63);
        w.setEnabled(0, 0);
        w.setEnabled(1, 0);
        due("a disabled rule with the full set", w.premise(0), 63);
        due("a disabled rule with the empty set", w.premise(1), 0);

        says(9, "Returns the premise, or NONE if there is no such rule.");
        dueRow("no rules", with(6)::premise);
        dueRow("one rule", with(6, 63, 0)::premise, 63);
        dueRow("ten rules", withPairs()::premise, PAIRS);
    }

    private static void conclusion() {
        says(10, "Returns the conclusion of a rule, enabled or not.");
        HornRuleWorkbench w = with(6, 63, 0, 0, 63);
        w.setEnabled(0, 0);
        w.setEnabled(1, 0);
        due("a disabled rule with the empty set", w.conclusion(0), 0);
        due("a disabled rule with the full set", w.conclusion(1), 63);

        says(10, "Returns the conclusion, or NONE if there is no such rule.");
        dueRow("no rules", with(6)::conclusion);
        dueRow("one rule", with(6, 63, 0)::conclusion, 0);
        dueRow("ten rules", withPairs()::conclusion, 32, 32, 32, 32, 32, 32, 32, 32, 32, 32);
    }

    private static void isEnabled() {
        says(11, "Returns 1 if the rule is enabled, 0 if not, or NONE if there is no such rule.");
        dueRow("no rules", with(6)::isEnabled);
        HornRuleWorkbench w = withPairs();
        dueRow("ten rules", w::isEnabled, 1, 1, 1, 1, 1, 1, 1, 1, 1, 1);
        w.setEnabled(0, 0);
        w.setEnabled(9, 0);
        dueRow("the ends disabled", w::isEnabled, 0, 1, 1, 1, 1, 1, 1, 1, 1, 0);
        w.removeLastRule();
        dueRow("nine rules", w::isEnabled, 0, 1, 1, 1, 1, 1, 1, 1, 1);
    }

    private static void closure() {
        says(12, "Returns the closure of a set under the enabled rules.");
        HornRuleWorkbench w = with(6, 0, 63);
        due("an enabled rule", w.closure(0), 63);
        w.setEnabled(0, 0);
        due("a disabled rule", w.closure(0), 0);
        due("no rules", with(6).closure(21), 21);

        says(12, "Returns the closure, or BAD_SET if the set is not valid.");
        for (int n = 1; n <= 6; n++) {
            HornRuleWorkbench u = with(n);
            due("the empty set", u.closure(0), 0);
            due("the full set", u.closure((1 << n) - 1), (1 << n) - 1);
            dueEach("closure", u::closure, BAD_SET, notSets(n));
        }
    }

    private static void isClosed() {
        says(13, "Returns whether a set is closed under the enabled rules.");
        HornRuleWorkbench w = with(6, 0, 63);
        due("an enabled rule", w.isClosed(0), 0);
        w.setEnabled(0, 0);
        due("a disabled rule", w.isClosed(0), 1);

        says(13, "Returns 1 if the set is closed, 0 if not, or BAD_SET if the set is not valid.");
        for (int n = 1; n <= 6; n++) {
            int full = (1 << n) - 1;
            HornRuleWorkbench u = with(n, 0, full);
            due("the full set", u.isClosed(full), 1);
            due("the full set without an attribute", u.isClosed(full - 1), 0);
            due("the empty set", u.isClosed(0), 0);
            dueEach("isClosed", u::isClosed, BAD_SET, notSets(n));
        }
    }

    private static void entails() {
        says(14, "Returns whether an implication is entailed by the enabled rules.");
        HornRuleWorkbench w = with(6, 0, 63);
        due("an enabled rule", w.entails(0, 63), 1);
        w.setEnabled(0, 0);
        due("a disabled rule", w.entails(0, 63), 0);
        due("by no rule", w.entails(0, 0), 1);

        says(14, "Returns 1 if it is entailed, 0 if not, or BAD_SET if the premise or the conclusion is not valid.");
        for (int n = 1; n <= 6; n++) {
            int full = (1 << n) - 1;
            HornRuleWorkbench u = with(n);
            due("nothing from nothing", u.entails(0, 0), 1);
            due("all from all", u.entails(full, full), 1);
            due("all from nothing", u.entails(0, full), 0);
            dueEach("premise", set -> u.entails(set, full), BAD_SET, notSets(n));
            dueEach("conclusion", set -> u.entails(full, set), BAD_SET, notSets(n));
        }
    }

    private static void firingCount() {
        says(15, "Returns the number of rules that fire in forward chaining from a set.");
        due("no rules", with(6).firingCount(0), 0);
        due("one for all", with(6, 0, 63).firingCount(0), 1);
        due("six, the last first", with(6, 16, 32, 8, 16, 4, 8, 2, 4, 1, 2, 0, 1).firingCount(0), 6);
        due("the full set", with(6, 0, 63).firingCount(63), 0);

        says(15, "A rule fires at most once.");
        HornRuleWorkbench w = with(2, 0, 1, 1, 2, 2, 1);
        due("three rules, two attributes", w.firingCount(0), 2);
        due("step 0", w.firedRule(0, 0), 0);
        due("step 1", w.firedRule(0, 1), 1);
        due("no rule fires again", w.firedRule(0, 2), NONE);
        due("a rule alone", with(6, 0, 1).firingCount(0), 1);

        says(15, "Returns the number of firings, or BAD_SET if the set is not valid.");
        for (int n = 1; n <= 6; n++) {
            int full = (1 << n) - 1;
            HornRuleWorkbench u = with(n, 0, full);
            due("the empty set", u.firingCount(0), 1);
            due("the full set", u.firingCount(full), 0);
            dueEach("firingCount", u::firingCount, BAD_SET, notSets(n));
        }
    }

    private static void firedRule() {
        says(16, "Returns the rule that fires at one step of forward chaining from a set.");
        HornRuleWorkbench w = with(6, 16, 32, 8, 16, 4, 8, 2, 4, 1, 2, 0, 1);
        dueRow("from the empty set", step -> w.firedRule(0, step), 5, 4, 3, 2, 1, 0);
        dueRow("from the middle", step -> w.firedRule(7, step), 2, 1, 0);
        dueRow("from all but the first", step -> w.firedRule(62, step), 5);

        says(16, "`step`: the step, 0 for the first firing");
        due("step 0", w.firedRule(0, 0), 5);
        due("step -1", w.firedRule(0, -1), NONE);

        says(16, "Returns the number of the rule; BAD_SET if the set is not valid (checked first);"
                + " NONE if there is no such step.");
        HornRuleWorkbench u = withPairs();
        due("the last of ten rules", u.firedRule(24, 0), 9);
        dueRow("the last of ten rules", step -> u.firedRule(24, step), 9);
        dueRow("a closed set", step -> u.firedRule(0, step));
        dueRow("the full set", step -> u.firedRule(63, step));
        for (int step : new int[] {0, 1, -1, MIN, MAX}) {
            dueEach("step " + step, set -> u.firedRule(set, step), BAD_SET, notSets(6));
        }
    }
}
