/** The sentences of promises 43 to 54, a method for each promise. */
final class ExampleBoundaries extends Boundaries {
    static void run() {
        addExample();
        clearExamples();
        exampleCount();
        example();
        contextClosure();
        support();
        exceptionCount();
        confidencePercent();
        questionCount();
        questionPremise();
        questionConclusion();
        isAccepted();
    }

    /** Seven examples: a is in all of them, b in six, c in one, d in none. */
    private static HornRuleWorkbench seven() {
        return withExamples(4, 3, 3, 3, 3, 3, 7, 1);
    }

    /** a implies b among three attributes: 1 is asked about twice. */
    private static HornRuleWorkbench sixQuestions() {
        return with(3, 1, 2);
    }

    private static int[] sixtyThree(int first, int step) {
        int[] numbers = new int[63];
        for (int i = 0; i < numbers.length; i++) {
            numbers[i] = first + i * step;
        }
        return numbers;
    }

    private static void addExample() {
        says(43, "Returns the number of the new example; BAD_SET if the set is not valid (checked first);"
                + " FULL if there are 10 examples.");
        for (int n = 1; n <= 6; n++) {
            HornRuleWorkbench w = with(n);
            for (int i = 0; i < 10; i++) {
                dueEach("addExample", w::addExample, BAD_SET, notSets(n));
                due("addExample", w.addExample(i % 2 == 0 ? 0 : (1 << n) - 1), i);
            }
            due("the 11th", w.addExample(0), FULL);
            due("the 11th again", w.addExample((1 << n) - 1), FULL);
            dueEach("full", w::addExample, BAD_SET, notSets(n));
            w.clearExamples();
            due("after clearExamples", w.addExample(0), 0);
        }
    }

    private static void clearExamples() {
        says(44, "Removes all examples.");
        HornRuleWorkbench w = withExamples(4, 0, 1, 2, 3, 4, 5, 6, 7, 8, 9);
        w.clearExamples();
        due("exampleCount", w.exampleCount(), 0);
        dueRow("example", w::example);
        due("none counts", w.support(0), 0);
        due("the context closure of the empty set", w.contextClosure(0), 15);

        says(44, "Returns the number of examples that were removed.");
        due("none", new HornRuleWorkbench().clearExamples(), 0);
        HornRuleWorkbench u = withExamples(4, 0, 1, 2, 3, 4, 5, 6, 7, 8, 9);
        due("ten", u.clearExamples(), 10);
        due("again", u.clearExamples(), 0);
        u.addExample(16);
        due("after a refused one", u.clearExamples(), 0);
        u.addExample(15);
        due("one", u.clearExamples(), 1);
    }

    private static void exampleCount() {
        says(45, "Returns the number of examples, 0 to 10.");
        HornRuleWorkbench w = new HornRuleWorkbench();
        for (int i = 0; i < 10; i++) {
            due("before", w.exampleCount(), i);
            w.addExample(16);
            due("after a refused one", w.exampleCount(), i);
            w.addExample(3);
        }
        due("ten", w.exampleCount(), 10);
        w.addExample(3);
        due("still ten", w.exampleCount(), 10);
        w.clearExamples();
        due("none", w.exampleCount(), 0);
    }

    private static void example() {
        says(46, "Returns the example, or NONE if there is no such example.");
        dueRow("no examples", new HornRuleWorkbench()::example);
        dueRow("one", withExamples(6, 63)::example, 63);
        dueRow("ten", withExamples(6, 63, 0, 1, 63, 32, 5, 5, 5, 0, 62)::example, 63, 0, 1, 63, 32, 5, 5, 5, 0, 62);
    }

    private static void contextClosure() {
        says(47, "Returns the context closure, or BAD_SET if the set is not valid.");
        for (int n = 1; n <= 6; n++) {
            int full = (1 << n) - 1;
            HornRuleWorkbench w = withExamples(n, 0);
            due("the empty set", w.contextClosure(0), 0);
            due("the set {a}", w.contextClosure(1), full);
            due("the full set", w.contextClosure(full), full);
            dueEach("contextClosure", w::contextClosure, BAD_SET, notSets(n));
        }
    }

    private static void support() {
        says(48, "Returns the support, or BAD_SET if the set is not valid.");
        for (int n = 1; n <= 6; n++) {
            int full = (1 << n) - 1;
            HornRuleWorkbench w = withExamples(n, full, full, full, full, full, full, full, full, full, 0);
            due("the empty set: ten", w.support(0), 10);
            due("the full set", w.support(full), 9);
            due("no examples", with(n).support(0), 0);
            dueEach("support", w::support, BAD_SET, notSets(n));
        }
    }

    private static void exceptionCount() {
        says(49, "Returns the number of exceptions of an implication: the number of examples of which the premise is a"
                + " subset and the conclusion is not.");
        HornRuleWorkbench w = seven();
        due("a but not b", w.exceptionCount(1, 2), 1);
        due("b but not c", w.exceptionCount(2, 4), 5);
        due("the premise is the example itself", w.exceptionCount(7, 8), 1);
        due("a part of the conclusion is not enough", w.exceptionCount(2, 5), 5);
        due("all but not d", w.exceptionCount(0, 8), 7);
        due("an empty conclusion", w.exceptionCount(0, 0), 0);
        due("a premise without support", w.exceptionCount(8, 1), 0);
        due("no examples", with(4).exceptionCount(0, 15), 0);

        says(49, "Returns the number of exceptions, or BAD_SET if the premise or the conclusion is not valid.");
        for (int n = 1; n <= 6; n++) {
            int full = (1 << n) - 1;
            HornRuleWorkbench u = withExamples(n, 0, 0, 0, 0, 0, 0, 0, 0, 0, 0);
            due("all ten", u.exceptionCount(0, full), 10);
            due("none", u.exceptionCount(full, 0), 0);
            dueEach("premise", set -> u.exceptionCount(set, full), BAD_SET, notSets(n));
            dueEach("conclusion", set -> u.exceptionCount(full, set), BAD_SET, notSets(n));
        }
    }

    private static void confidencePercent() {
        says(50, "Returns the confidence of an implication in whole percent, rounded down: 100 times the number of"
                + " examples of which both the premise and the conclusion are subsets, divided by the support of the"
                + " premise.");
        HornRuleWorkbench w = seven();
        due("six of seven: 85.7", w.confidencePercent(1, 2), 85);
        due("one of seven: 14.2", w.confidencePercent(0, 4), 14);
        due("one of six: 16.6", w.confidencePercent(2, 4), 16);
        due("two of three: 66.6", withExamples(2, 1, 3, 3).confidencePercent(1, 2), 66);
        due("nine of ten: 90", withExamples(2, 1, 3, 3, 3, 3, 3, 3, 3, 3, 3).confidencePercent(1, 2), 90);

        says(50, "Returns the confidence, 0 to 100; BAD_SET if the premise or the conclusion is not valid"
                + " (checked first); NONE if the support of the premise is 0.");
        due("none of seven", w.confidencePercent(0, 8), 0);
        due("seven of seven", w.confidencePercent(0, 1), 100);
        due("an empty conclusion", w.confidencePercent(7, 0), 100);
        due("support 1", w.confidencePercent(7, 7), 100);
        due("support 0", w.confidencePercent(8, 1), NONE);
        due("support 0, an empty conclusion", w.confidencePercent(15, 0), NONE);
        due("no examples", with(1).confidencePercent(0, 0), NONE);
        for (int n : new int[] {1, 4, 6}) {
            int full = (1 << n) - 1;
            HornRuleWorkbench u = withExamples(n, 0);
            dueEach("premise", set -> u.confidencePercent(set, 0), BAD_SET, notSets(n));
            dueEach("conclusion", set -> u.confidencePercent(0, set), BAD_SET, notSets(n));
            dueEach("support 0", set -> u.confidencePercent(full, set), BAD_SET, notSets(n));
        }
    }

    private static void questionCount() {
        says(51, "Runs the exploration and returns the number of its questions.");
        due("none", withExamples(1, 0).questionCount(), 0);
        due("one that is accepted", with(6, 0, 63).questionCount(), 1);
        due("one that is not", with(1).questionCount(), 1);
        due("six", sixQuestions().questionCount(), 6);
        due("all sets but the full one", with(6).questionCount(), 63);
        HornRuleWorkbench w = with(1);
        due("at first", w.questionCount(), 1);
        w.addExample(0);
        due("the example spares the question", w.questionCount(), 0);
        w.clearExamples();
        due("without it", w.questionCount(), 1);
        w.addRule(0, 1);
        dueRow("a rule more", w::questionPremise, 0);
        dueRow("a rule more", w::isAccepted, 1);
        w.undo();
        dueRow("undone", w::questionConclusion, 1);
        dueRow("undone", w::isAccepted, 0);
        w.addExample(0);
        w.reset(2);
        dueRow("no example is left", w::questionPremise, 0, 1, 2);
        dueRow("no example is left", w::questionConclusion, 3, 3, 3);
    }

    private static void questionPremise() {
        says(52, "`position`: the position of the question in the order of asking, 0 for the first");
        due("the first", sixQuestions().questionPremise(0), 0);
        due("the first, if 0 is an example", withExamples(2, 0).questionPremise(0), 1);

        says(52, "Returns the premise, or NONE if there is no such question.");
        dueRow("no question", withExamples(1, 0)::questionPremise);
        dueRow("one", with(6, 0, 63)::questionPremise, 0);
        dueRow("six", sixQuestions()::questionPremise, 0, 1, 1, 2, 4, 6);
        dueRow("63", with(6)::questionPremise, sixtyThree(0, 1));
    }

    private static void questionConclusion() {
        says(53, "Runs the exploration and returns the conclusion of a question, which is the context closure of its"
                + " premise at that time.");
        HornRuleWorkbench w = sixQuestions();
        due("of 1 at first", w.questionConclusion(1), 7);
        due("of 1 again", w.questionConclusion(2), 3);
        due("of the same set for the examples of the workbench", w.contextClosure(1), 7);

        says(53, "`position`: the position of the question in the order of asking, 0 for the first");
        due("the first", with(2, 0, 1).questionConclusion(0), 3);
        due("the first, with an example", withExamples(2, 1).questionConclusion(0), 1);

        says(53, "Returns the conclusion, or NONE if there is no such question.");
        dueRow("no question", withExamples(1, 0)::questionConclusion);
        dueRow("one", with(6, 0, 63)::questionConclusion, 63);
        dueRow("six", w::questionConclusion, 7, 7, 3, 3, 7, 7);
        dueRow("63", with(6)::questionConclusion, sixtyThree(63, 0));
    }

    private static void isAccepted() {
        says(54, "`position`: the position of the question in the order of asking, 0 for the first");
        due("the first is accepted", with(1, 0, 1).isAccepted(0), 1);
        due("the first is not", with(2, 0, 1).isAccepted(0), 0);

        says(54, "Returns 1 if it was accepted, 0 if a counterexample was given, or NONE if there is no such question.");
        dueRow("no question", withExamples(1, 0)::isAccepted);
        dueRow("one", with(6, 0, 63)::isAccepted, 1);
        dueRow("six", sixQuestions()::isAccepted, 0, 0, 1, 0, 0, 0);
        dueRow("63", with(6)::isAccepted, sixtyThree(0, 0));
    }
}
