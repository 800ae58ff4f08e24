/** Promises 33 to 42: the learner and the bound for its queries. */
public final class LearnerTest {
    public static void main(String[] args) {
        chainOfTwoRules();
        rememberedAnswers();
        noRules();
        emptyPremise();
        followsTheRules();
        queryBound();
        Due.end();
    }

    private static void due(String call, long got, long want) {
        Due.due(call, got, want);
    }

    /**
     * a implies b, b implies c. Counterexample 1 gives (1, 6). Counterexample 2 asks about 0, which
     * is closed, and gives (2, 5). Then 6 is positive, and makes that (2, 4).
     */
    private static void chainOfTwoRules() {
        HornRuleWorkbench w = new HornRuleWorkbench();
        w.reset(3);
        w.addRule(1, 2);
        w.addRule(2, 4);
        due("33 learnerRounds", w.learnerRounds(), 3);
        int[] counterexamples = {1, 2, 6};
        for (int i = 0; i < 3; i++) {
            due("34 counterexample(" + i + ")", w.counterexample(i), counterexamples[i]);
        }
        due("35 positiveCounterexamples", w.positiveCounterexamples(), 1);
        due("36 learnedCount", w.learnedCount(), 2);
        due("37 learnedPremise(0)", w.learnedPremise(0), 1);
        due("38 learnedConclusion(0)", w.learnedConclusion(0), 6);
        due("37 learnedPremise(1)", w.learnedPremise(1), 2);
        due("38 learnedConclusion(1)", w.learnedConclusion(1), 4);
        due("39 membershipQueries", w.membershipQueries(), 1);
        due("40 queriedSet(0)", w.queriedSet(0), 0);
        due("41 queryPosition(0)", w.queryPosition(0), 0);
        due("41 a counterexample is no query", w.queryPosition(1), -2);
        due("41 not a set", w.queryPosition(8), -1);
        due("41 not a set", w.queryPosition(-1), -1);
        for (int bad : new int[] {-1, 3, Integer.MIN_VALUE, Integer.MAX_VALUE}) {
            due("34 counterexample(" + bad + ")", w.counterexample(bad), -2);
            due("37 learnedPremise(" + bad + ")", w.learnedPremise(bad), -2);
            due("38 learnedConclusion(" + bad + ")", w.learnedConclusion(bad), -2);
            due("40 queriedSet(" + bad + ")", w.queriedSet(bad), -2);
        }
        due("37 learnedPremise(2)", w.learnedPremise(2), -2);
        due("38 learnedConclusion(2)", w.learnedConclusion(2), -2);
        due("40 queriedSet(1)", w.queriedSet(1), -2);
        due("33 it starts again each time", w.learnerRounds(), 3);
        due("39 it starts again each time", w.membershipQueries(), 1);
    }

    /**
     * Full premises {a}, {b} and {c}: 1 gives (1, 6); 2 asks about 0 and gives (2, 5); 4 needs 0
     * twice, for both pairs, but it is remembered, and gives (4, 3).
     */
    private static void rememberedAnswers() {
        HornRuleWorkbench w = new HornRuleWorkbench();
        w.reset(3);
        w.addRule(1, 7);
        w.addRule(2, 7);
        w.addRule(4, 7);
        due("33 three rounds", w.learnerRounds(), 3);
        due("35 none is positive", w.positiveCounterexamples(), 0);
        due("36 three pairs", w.learnedCount(), 3);
        due("38 learnedConclusion(2)", w.learnedConclusion(2), 3);
        due("39 one query", w.membershipQueries(), 1);
        w.reset(4);
        w.addRule(3, 15);
        w.addRule(5, 15);
        w.addRule(6, 15);
        // 3 gives (3, 12); 5 asks about 1; 6 asks about 2, then about 4
        due("39 three queries", w.membershipQueries(), 3);
        due("40 queriedSet(0)", w.queriedSet(0), 1);
        due("40 queriedSet(1)", w.queriedSet(1), 2);
        due("40 queriedSet(2)", w.queriedSet(2), 4);
        due("41 queryPosition(4)", w.queryPosition(4), 2);
        due("41 queryPosition(2)", w.queryPosition(2), 1);
        due("41 queryPosition(3)", w.queryPosition(3), -2);
    }

    private static void noRules() {
        HornRuleWorkbench w = new HornRuleWorkbench();
        due("33 no rounds", w.learnerRounds(), 0);
        due("34 no round", w.counterexample(0), -2);
        due("35 no counterexamples", w.positiveCounterexamples(), 0);
        due("36 no pairs", w.learnedCount(), 0);
        due("39 no queries", w.membershipQueries(), 0);
        w.addRule(3, 1);
        due("33 a rule that says nothing", w.learnerRounds(), 0);
    }

    /** Nothing implies a: 0 gives (0, 3); then 1 is positive and makes that (0, 1). */
    private static void emptyPremise() {
        HornRuleWorkbench w = new HornRuleWorkbench();
        w.reset(2);
        w.addRule(0, 1);
        due("33 two rounds", w.learnerRounds(), 2);
        due("34 counterexample(0)", w.counterexample(0), 0);
        due("34 counterexample(1)", w.counterexample(1), 1);
        due("35 one is positive", w.positiveCounterexamples(), 1);
        due("37 learnedPremise(0)", w.learnedPremise(0), 0);
        due("38 learnedConclusion(0)", w.learnedConclusion(0), 1);
    }

    /** Every call that changes the rules must show in the learner. */
    private static void followsTheRules() {
        HornRuleWorkbench w = new HornRuleWorkbench();
        w.save();
        due("36 at first", w.learnedCount(), 0);
        w.addRule(1, 2);
        due("36 after addRule", w.learnedCount(), 1);
        w.setEnabled(0, 0);
        due("36 after setEnabled", w.learnedCount(), 0);
        w.undo();
        due("36 after undo", w.learnedCount(), 1);
        w.redo();
        due("36 after redo", w.learnedCount(), 0);
        w.undo();
        w.setRule(0, 2, 1);
        due("37 after setRule", w.learnedPremise(0), 2);
        w.removeLastRule();
        due("36 after removeLastRule", w.learnedCount(), 0);
        w.appendText('>');
        w.appendText('d');
        w.parseRules();
        due("37 after parseRules", w.learnedPremise(0), 0);
        w.restore();
        due("36 after restore", w.learnedCount(), 0);
        w.addRule(8, 7);
        due("36 a rule again", w.learnedCount(), 1);
        w.reset(4);
        due("36 after reset", w.learnedCount(), 0);
        due("33 after reset", w.learnerRounds(), 0);
        w.addRule(0, 1);
        due("33 another rule", w.learnerRounds(), 2);
        due("34 another rule", w.counterexample(0), 0);
        due("35 another rule", w.positiveCounterexamples(), 1);
        w.undo();
        due("35 without it", w.positiveCounterexamples(), 0);
        due("39 without it", w.membershipQueries(), 0);
    }

    private static void queryBound() {
        HornRuleWorkbench w = new HornRuleWorkbench();
        due("42 an empty basis", w.queryBound(2000000000), 0);
        w.addRule(1, 2);
        w.addRule(2, 4);
        due("42 2 times 5 times 3", w.queryBound(3), 30);
        due("42 factor 0", w.queryBound(0), 0);
        due("42 the greatest that fits", w.queryBound(214748364), 2147483640);
        due("42 one more", w.queryBound(214748365), -6);
        due("42 the greatest factor", w.queryBound(2000000000), -6);
        due("42 BAD_ARGUMENT first", w.queryBound(2000000001), -5);
        due("42 factor -1", w.queryBound(-1), -5);
        due("42 factor MIN", w.queryBound(Integer.MIN_VALUE), -5);
        due("42 factor MAX", w.queryBound(Integer.MAX_VALUE), -5);
        w.reset(1);
        w.addRule(0, 1);
        due("42 n is 1", w.queryBound(1073741823), 2147483646);
        due("42 n is 1, too great", w.queryBound(1073741824), -6);
        productsThatWrapAround();
    }

    /** In int arithmetic 2 times 7 times 613,566,757 would wrap around to 6. */
    private static void productsThatWrapAround() {
        HornRuleWorkbench w = new HornRuleWorkbench();
        w.reset(6);
        w.addRule(1, 2);
        w.addRule(2, 4);
        due("42 6 in int arithmetic", w.queryBound(613566757), -6);
    }
}
