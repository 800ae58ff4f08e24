/** The sentences of promises 33 to 42, a method for each promise. */
final class LearnerBoundaries extends Boundaries {
    static void run() {
        learnerRounds();
        counterexample();
        positiveCounterexamples();
        learnedCount();
        learnedPremise();
        learnedConclusion();
        membershipQueries();
        queriedSet();
        queryPosition();
        queryBound();
    }

    /** Each attribute alone implies all: 1, 2, 4 .. are the counterexamples, and only 0 is asked. */
    private static HornRuleWorkbench sixKeys() {
        return with(6, 1, 63, 2, 63, 4, 63, 8, 63, 16, 63, 32, 63);
    }

    /** Any two of a, b and c imply all four: 3, 5 and 6 come; 1 is asked for 5, then 2 and 4 for 6. */
    private static HornRuleWorkbench threePairs() {
        return with(4, 3, 15, 5, 15, 6, 15);
    }

    private static void learnerRounds() {
        says(33, "Runs the learner and returns the number of its rounds that had a counterexample.");
        due("no rules: the only round has none", with(6).learnerRounds(), 0);
        due("rules that say nothing", with(6, 63, 63, 3, 1).learnerRounds(), 0);
        due("the last round has none", with(6, 0, 63).learnerRounds(), 1);
        due("all but f", with(6, 31, 32).learnerRounds(), 1);
        due("six", sixKeys().learnerRounds(), 6);
    }

    private static void counterexample() {
        says(34, "`round`: the round, 0 for the first");
        due("the first", sixKeys().counterexample(0), 1);

        says(34, "Returns the counterexample, or NONE if there is no such round.");
        dueRow("no rules", with(6)::counterexample);
        dueRow("the empty set", with(6, 0, 63)::counterexample, 0);
        dueRow("all but f", with(6, 31, 32)::counterexample, 31);
        dueRow("six", sixKeys()::counterexample, 1, 2, 4, 8, 16, 32);
    }

    private static void positiveCounterexamples() {
        says(35, "Runs the learner and returns the number of rounds whose counterexample was positive.");
        due("no rounds", with(6).positiveCounterexamples(), 0);
        due("a negative one alone", with(6, 0, 63).positiveCounterexamples(), 0);
        due("six negative ones", sixKeys().positiveCounterexamples(), 0);
        due("one of each", with(6, 0, 1).positiveCounterexamples(), 1);
        // 1 gives (1, 14) and 2 gives (2, 13); then 5 and 6 are positive
        due("two of four", with(4, 1, 4, 2, 4).positiveCounterexamples(), 2);
    }

    private static void learnedCount() {
        says(36, "Runs the learner and returns the number of pairs in its final list.");
        due("no rules", with(6).learnedCount(), 0);
        due("a rule that says nothing", with(6, 63, 1).learnedCount(), 0);
        due("one", with(6, 0, 63).learnedCount(), 1);
        due("ten", withPairs().learnedCount(), 10);
        due("two rules with one premise", with(3, 1, 2, 1, 4).learnedCount(), 1);
    }

    private static void learnedPremise() {
        says(37, "`position`: the position of the pair in the list, 0 for the first");
        due("the first", sixKeys().learnedPremise(0), 1);

        says(37, "Returns the set s, or NONE if there is no such pair.");
        dueRow("no rules", with(6)::learnedPremise);
        dueRow("the empty set", with(6, 0, 63)::learnedPremise, 0);
        dueRow("all but f", with(6, 31, 32)::learnedPremise, 31);
        dueRow("ten", withPairs()::learnedPremise, PAIRS);
    }

    private static void learnedConclusion() {
        says(38, "`position`: the position of the pair in the list, 0 for the first");
        due("the first", sixKeys().learnedConclusion(0), 62);

        says(38, "Returns the set r, or NONE if there is no such pair.");
        dueRow("no rules", with(6)::learnedConclusion);
        dueRow("the full set", with(6, 0, 63)::learnedConclusion, 63);
        dueRow("f", with(6, 31, 32)::learnedConclusion, 32);
        dueRow("ten", withPairs()::learnedConclusion, 32, 32, 32, 32, 32, 32, 32, 32, 32, 32);
        dueRow("six", sixKeys()::learnedConclusion, 62, 61, 59, 55, 47, 31);
    }

    private static void membershipQueries() {
        says(39, "Runs the learner and returns the number of its membership queries.");
        due("no rules", with(6).membershipQueries(), 0);
        due("one round needs none", with(6, 0, 63).membershipQueries(), 0);
        due("one for six rounds", sixKeys().membershipQueries(), 1);
        due("three", threePairs().membershipQueries(), 3);
    }

    private static void queriedSet() {
        says(40, "`position`: the position of the query in the order of asking, 0 for the first");
        due("the first", threePairs().queriedSet(0), 1);

        says(40, "Returns the set, or NONE if there is no such query.");
        dueRow("no rules", with(6)::queriedSet);
        dueRow("no query", with(6, 0, 63)::queriedSet);
        dueRow("the empty set", sixKeys()::queriedSet, 0);
        dueRow("three", threePairs()::queriedSet, 1, 2, 4);
    }

    private static void queryPosition() {
        says(41, "Returns the position in the order of asking, 0 for the first; BAD_SET if the set is not valid"
                + " (checked first); NONE if the set was not asked.");
        HornRuleWorkbench w = threePairs();
        due("the first", w.queryPosition(1), 0);
        due("the second", w.queryPosition(2), 1);
        due("the third", w.queryPosition(4), 2);
        dueEach("not asked", w::queryPosition, NONE, 0, 3, 5, 6, 7, 8, 15);
        dueEach("queryPosition", w::queryPosition, BAD_SET, notSets(4));
        due("the empty set", sixKeys().queryPosition(0), 0);
        HornRuleWorkbench u = with(1);
        dueEach("no rules", u::queryPosition, NONE, 0, 1);
        dueEach("one attribute", u::queryPosition, BAD_SET, notSets(1));
        dueEach("six attributes", sixKeys()::queryPosition, BAD_SET, notSets(6));
    }

    private static void queryBound() {
        says(42, "Returns a bound for the number of queries: the size of the canonical basis, times n + 1, times a"
                + " factor.");
        for (int n = 1; n <= 6; n++) {
            due("a basis of one", with(n, 0, (1 << n) - 1).queryBound(1), n + 1);
            due("an empty basis", with(n).queryBound(7), 0);
        }
        due("10 times 7 times 3", withPairs().queryBound(3), 210);
        due("the size of the basis, not of the rules", with(3, 1, 2, 1, 4).queryBound(1), 4);

        says(42, "`factor`: the factor, 0 to 2000000000");
        HornRuleWorkbench w = new HornRuleWorkbench();
        due("factor 0", withPairs().queryBound(0), 0);
        due("the greatest factor, an empty basis", w.queryBound(2000000000), 0);
        due("one more, an empty basis", w.queryBound(2000000001), BAD_ARGUMENT);
        due("one less", w.queryBound(-1), BAD_ARGUMENT);

        says(42, "Returns the product; BAD_ARGUMENT if the factor is out of range (checked first); OVERFLOW if the"
                + " product is greater than Integer.MAX_VALUE.");
        HornRuleWorkbench u = with(1, 0, 1);
        due("2147483646", u.queryBound(1073741823), 2147483646);
        due("2147483648", u.queryBound(1073741824), OVERFLOW);
        due("the greatest factor", u.queryBound(2000000000), OVERFLOW);
        HornRuleWorkbench v = withPairs();
        due("2147483590", v.queryBound(30678337), 2147483590);
        due("70 more", v.queryBound(30678338), OVERFLOW);
        due("2^32 + 24: a wrap-around to 24", v.queryBound(61356676), OVERFLOW);
        due("the greatest factor", v.queryBound(2000000000), OVERFLOW);
        dueEach("queryBound", v::queryBound, BAD_ARGUMENT, 2000000001, MAX, -1, MIN, -2000000000);
    }
}
