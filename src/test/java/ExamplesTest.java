/** Promises 43 to 54: examples and the exploration. */
public final class ExamplesTest {
    public static void main(String[] args) {
        addAndClear();
        contextClosure();
        supportAndConfidence();
        exploration();
        explorationSkips();
        explorationUsesClosedExamples();
        explorationFollows();
        Due.end();
    }

    private static void due(String call, long got, long want) {
        Due.due(call, got, want);
    }

    private static void addAndClear() {
        HornRuleWorkbench w = new HornRuleWorkbench();
        due("44 nothing to clear", w.clearExamples(), 0);
        due("43 set 16", w.addExample(16), -1);
        due("43 set -1", w.addExample(-1), -1);
        due("45 none came of it", w.exampleCount(), 0);
        for (int i = 0; i < 10; i++) {
            due("43 addExample " + i, w.addExample(i / 2), i);
            due("45 exampleCount", w.exampleCount(), i + 1);
        }
        due("43 the 11th", w.addExample(0), -3);
        due("43 BAD_SET first", w.addExample(16), -1);
        due("46 example(0)", w.example(0), 0);
        due("46 example(9)", w.example(9), 4);
        due("46 example(10)", w.example(10), -2);
        due("46 example(-1)", w.example(-1), -2);
        due("46 example(MAX)", w.example(Integer.MAX_VALUE), -2);
        due("43 examples are no edits", w.undoCount(), 0);
        w.addRule(1, 2);
        w.undo();
        due("45 undo leaves the examples", w.exampleCount(), 10);
        due("44 clearExamples", w.clearExamples(), 10);
        due("45 none is left", w.exampleCount(), 0);
        due("46 none is left", w.example(0), -2);
        due("44 which leaves what can be redone", w.redoCount(), 1);
    }

    private static void contextClosure() {
        HornRuleWorkbench w = new HornRuleWorkbench();
        due("47 no examples", w.contextClosure(0), 15);
        w.addExample(7);
        w.addExample(13);
        w.addExample(5);
        due("47 all of them", w.contextClosure(1), 5);
        due("47 of the empty set", w.contextClosure(0), 5);
        due("47 one of them", w.contextClosure(2), 7);
        due("47 none of them", w.contextClosure(10), 15);
        due("47 set 16", w.contextClosure(16), -1);
        due("47 set -1", w.contextClosure(-1), -1);
        w.addRule(5, 10);
        due("47 rules do not matter", w.contextClosure(1), 5);
        w.reset(6);
        due("47 the full set of six attributes", w.contextClosure(1), 63);
        w.reset(1);
        due("47 the full set of one attribute", w.contextClosure(0), 1);
    }

    private static void supportAndConfidence() {
        HornRuleWorkbench w = new HornRuleWorkbench();
        due("48 no examples", w.support(0), 0);
        due("50 no examples", w.confidencePercent(0, 0), -2);
        w.addExample(3);
        w.addExample(3);
        w.addExample(1);
        w.addExample(12);
        due("48 the empty set", w.support(0), 4);
        due("48 equal examples count twice", w.support(3), 2);
        due("48 a", w.support(1), 3);
        due("48 none", w.support(5), 0);
        due("48 set 16", w.support(16), -1);
        due("48 set -1", w.support(-1), -1);
        due("49 a but not b", w.exceptionCount(1, 2), 1);
        due("49 all but not b and c", w.exceptionCount(0, 6), 4);
        due("49 a but not a", w.exceptionCount(1, 1), 0);
        due("49 no example", w.exceptionCount(5, 2), 0);
        due("49 premise 16", w.exceptionCount(16, 0), -1);
        due("49 conclusion 16", w.exceptionCount(0, 16), -1);
        due("49 premise -1", w.exceptionCount(-1, 0), -1);
        due("49 conclusion -1", w.exceptionCount(0, -1), -1);
        due("50 two of three, rounded down", w.confidencePercent(1, 2), 66);
        due("50 one of four", w.confidencePercent(0, 12), 25);
        due("50 all", w.confidencePercent(2, 1), 100);
        due("50 none", w.confidencePercent(4, 1), 0);
        due("50 support 0", w.confidencePercent(5, 1), -2);
        due("50 BAD_SET first", w.confidencePercent(5, 16), -1);
        due("50 premise 16", w.confidencePercent(16, 1), -1);
        due("50 premise -1", w.confidencePercent(-1, 1), -1);
        due("50 conclusion -1", w.confidencePercent(1, -1), -1);
    }

    private static void questions(HornRuleWorkbench w, int[][] want) {
        due("51 questionCount", w.questionCount(), want.length);
        for (int i = 0; i < want.length; i++) {
            due("52 questionPremise(" + i + ")", w.questionPremise(i), want[i][0]);
            due("53 questionConclusion(" + i + ")", w.questionConclusion(i), want[i][1]);
            due("54 isAccepted(" + i + ")", w.isAccepted(i), want[i][2]);
        }
        for (int bad : new int[] {-1, want.length, Integer.MIN_VALUE, Integer.MAX_VALUE}) {
            due("52 questionPremise(" + bad + ")", w.questionPremise(bad), -2);
            due("53 questionConclusion(" + bad + ")", w.questionConclusion(bad), -2);
            due("54 isAccepted(" + bad + ")", w.isAccepted(bad), -2);
        }
    }

    /** a implies b, no examples: 0, then 3 as the closure of 1, then 2 come as counterexamples. */
    private static void exploration() {
        HornRuleWorkbench w = new HornRuleWorkbench();
        w.reset(2);
        w.addRule(1, 2);
        questions(w, new int[][] {{0, 3, 0}, {1, 3, 1}, {2, 3, 0}});
        due("45 the workbench's examples do not change", w.exampleCount(), 0);
        w.reset(3);
        w.addRule(1, 2);
        // 1 is asked about twice: the counterexample 3 does not have c, and then 1 gives 3
        questions(w, new int[][] {{0, 7, 0}, {1, 7, 0}, {1, 3, 1}, {2, 3, 0}, {4, 7, 0}, {6, 7, 0}});
        w.reset(1);
        w.addRule(0, 1);
        questions(w, new int[][] {{0, 1, 1}});
        w.reset(1);
        questions(w, new int[][] {{0, 1, 0}});
    }

    /** Nothing implies a: after that is accepted, the sets without a are skipped. */
    private static void explorationSkips() {
        HornRuleWorkbench w = new HornRuleWorkbench();
        w.reset(2);
        w.addRule(0, 1);
        questions(w, new int[][] {{0, 3, 0}, {0, 1, 1}});
        w.reset(2);
        w.addRule(0, 3);
        questions(w, new int[][] {{0, 3, 1}});
    }

    /** Of the examples 1 and 2 only 2 is closed; it spares the question about itself. */
    private static void explorationUsesClosedExamples() {
        HornRuleWorkbench w = new HornRuleWorkbench();
        w.reset(2);
        w.addRule(1, 2);
        w.addExample(1);
        w.addExample(2);
        questions(w, new int[][] {{0, 2, 0}, {1, 3, 1}});
        w.setEnabled(0, 0);
        questions(w, new int[][] {});
        due("46 the examples stay", w.example(0) * 10 + w.example(1), 12);
    }

    /** Every call that changes the rules or the examples must show in the exploration. */
    private static void explorationFollows() {
        HornRuleWorkbench w = new HornRuleWorkbench();
        w.reset(1);
        w.save();
        due("51 at first", w.questionCount(), 1);
        w.addExample(0);
        due("51 after addExample", w.questionCount(), 0);
        w.clearExamples();
        due("51 after clearExamples", w.questionCount(), 1);
        due("54 not accepted", w.isAccepted(0), 0);
        w.addRule(0, 1);
        due("54 after addRule", w.isAccepted(0), 1);
        w.setEnabled(0, 0);
        due("54 after setEnabled", w.isAccepted(0), 0);
        w.undo();
        due("54 after undo", w.isAccepted(0), 1);
        w.redo();
        due("54 after redo", w.isAccepted(0), 0);
        w.undo();
        w.setRule(0, 1, 1);
        due("54 after setRule", w.isAccepted(0), 0);
        w.addExample(0);
        due("51 an example again", w.questionCount(), 0);
        w.restore();
        due("51 after restore", w.questionCount(), 1);
        w.addExample(0);
        due("51 an example again", w.questionCount(), 0);
        w.reset(1);
        due("51 after reset", w.questionCount(), 1);
    }
}
