import java.util.Arrays;
import java.util.function.IntUnaryOperator;
import java.util.stream.IntStream;

/** The sentences that stand before the first promise, but for errors and constants, in their order. */
final class DescriptionBoundaries extends Boundaries {
    static void run() {
        objects();
        attributesAndSets();
        rules();
        disabledRules();
        closure();
        forwardChaining();
        canonicalBasis();
        hypotheses();
        positiveCounterexamples();
        negativeCounterexamples();
        learnerAsAWhole();
        examples();
        exploration();
        questions();
        edits();
        twelveEdits();
        buffers();
    }

    private static void objects() {
        says(0, "An object is used for at most 512 calls after it has been made; what later calls answer is free.");
        HornRuleWorkbench w = new HornRuleWorkbench();
        for (int i = 0; i < 255; i++) {
            due("call " + (2 * i + 1), w.addRule(1, 2), 0);
            due("call " + (2 * i + 2), w.removeLastRule(), 0);
        }
        due("call 511", w.addRule(1, 2), 0);
        due("call 512", w.closure(1), 3);
        HornRuleWorkbench u = new HornRuleWorkbench();
        for (int i = 1; i <= 512; i++) {
            due("call " + i, u.createBuffer(i % 3, i % 3, 64), 1);
        }
    }

    private static void attributesAndSets() {
        says(0, "There are n attributes, numbered 0 to n - 1, where n is 1 to 6.");
        for (int n = 1; n <= 6; n++) {
            HornRuleWorkbench w = with(n);
            due("n", w.attributeCount(), n);
            due("attribute 0", w.generatorCount(0), 0);
            due("attribute n - 1", w.generatorCount(n - 1), 0);
            due("attribute n", w.generatorCount(n), NONE);
            due("attribute -1", w.generatorCount(-1), NONE);
        }
        due("n is 0", with(4).reset(0), BAD_ARGUMENT);
        due("n is 7", with(4).reset(7), BAD_ARGUMENT);

        says(0, "An attribute set is an int whose bit a is 1 if attribute a is in the set.");
        for (int a = 0; a < 6; a++) {
            HornRuleWorkbench w = with(6, 0, 1 << a);
            due("attribute " + a + " follows", w.generatorCount(a), 1);
            due("no other does", w.generatorCount((a + 1) % 6), 0);
            w.formatRules();
            due("its letter", w.formattedCharacter(1), 'a' + a);
        }

        says(0, "A valid set is 0 to 2^n - 1.");
        for (int n = 1; n <= 6; n++) {
            HornRuleWorkbench w = with(n);
            for (int set = 0; set < 1 << n; set++) {
                due("set " + set, w.closure(set), set);
            }
            due("-1", w.closure(-1), BAD_SET);
            due("2^n", w.closure(1 << n), BAD_SET);
        }

        says(0, "The full set is 2^n - 1.");
        for (int n = 1; n <= 6; n++) {
            due("it is the key of no rules", with(n).minimalKey(0), (1 << n) - 1);
            due("it is the context closure of no examples", with(n).contextClosure(0), (1 << n) - 1);
        }

        says(0, "Sets are ordered by their int values.");
        HornRuleWorkbench w = with(6);
        for (int set = 0; set < 64; set++) {
            due("set " + set, w.closedSet(set), set);
        }
        dueRow("{a, b, c, d, e} before {f}", with(6, 31, 32, 32, 31)::minimalKey, 31, 32);

        says(0, "A set X is a proper subset of Y if every attribute of X is in Y and X is not equal to Y.");
        due("the full set does not cover itself", with(1).upperCoverCount(1), 0);
        due("a set is no key below itself", with(1, 0, 1).minimalKeyCount(), 1);
        due("{a} is none of {b}", with(2, 1, 3, 2, 3).minimalKeyCount(), 2);
        due("a chain has no set twice", with(1).chainLength(), 2);
    }

    private static void rules() {
        says(0, "A rule has a premise and a conclusion, which are sets, and a flag that says whether it is enabled.");
        HornRuleWorkbench w = with(6, 0, 0, 63, 63, 0, 63, 63, 0, 5, 6);
        w.setEnabled(4, 0);
        dueRow("premise", w::premise, 0, 63, 0, 63, 5);
        dueRow("conclusion", w::conclusion, 0, 63, 63, 0, 6);
        dueRow("isEnabled", w::isEnabled, 1, 1, 1, 1, 0);

        says(0, "Rules are numbered from 0 in the order in which they were added.");
        HornRuleWorkbench u = with(6);
        for (int i = 0; i < 10; i++) {
            due("addRule", u.addRule(63 - i, i), i);
        }
        dueRow("premise", u::premise, 63, 62, 61, 60, 59, 58, 57, 56, 55, 54);
        u.removeLastRule();
        u.removeLastRule();
        due("the next number", u.addRule(0, 0), 8);
        dueRow("premise", u::premise, 63, 62, 61, 60, 59, 58, 57, 56, 0);

        says(0, "There are at most 10 rules.");
        HornRuleWorkbench v = withPairs();
        due("the 11th", v.addRule(0, 0), FULL);
        due("the 11th by a text", parse(v, ">"), FULL);
        due("ruleCount", v.ruleCount(), 10);
        v.setEnabled(0, 0);
        due("a disabled one counts", v.addRule(0, 0), FULL);
        v.removeLastRule();
        due("room for one", v.addRule(0, 0), 9);
        due("the 11th", v.addRule(0, 0), FULL);
    }

    /** Every answer about rules, in a row, that must not depend on a disabled rule with the last number. */
    private static String answersOf(HornRuleWorkbench w) {
        StringBuilder answers = new StringBuilder();
        for (int i = -1; i <= 16; i++) {
            int[] row = {w.closure(i), w.isClosed(i), w.entails(0, i), w.firingCount(i), w.firedRule(i, 0),
                w.closedSet(i), w.upperCoverCount(i), w.irreducible(i), w.minimalKey(i), w.generatorCount(i),
                w.generator(i, 0), w.basisPremise(i), w.basisConclusion(i), w.counterexample(i),
                w.learnedPremise(i), w.learnedConclusion(i), w.queriedSet(i), w.queryPosition(i),
                w.questionPremise(i), w.questionConclusion(i), w.isAccepted(i)};
            answers.append(Arrays.toString(row));
        }
        int[] row = {w.closedSetCount(), w.chainLength(), w.irreducibleCount(), w.minimalKeyCount(), w.basisSize(),
            w.redundantRules(), w.irredundantCover(), w.reducedPremise(0), w.reducedPremise(1), w.learnerRounds(),
            w.positiveCounterexamples(), w.learnedCount(), w.membershipQueries(), w.queryBound(9), w.questionCount(),
            w.exportClosures(0, 0), w.firstDifference(0), w.randomClosureSum(20, 3)};
        return answers + Arrays.toString(row);
    }

    private static void disabledRules() {
        says(0, "A disabled rule has no effect on any result except where a method says so.");
        int[][] disabled = {{0, 15}, {0, 0}, {1, 14}, {2, 4}, {15, 15}, {7, 8}, {4, 3}};
        for (int[] rule : disabled) {
            HornRuleWorkbench without = with(4, 1, 2, 3, 4);
            HornRuleWorkbench with = with(4, 1, 2, 3, 4, rule[0], rule[1]);
            with.setEnabled(2, 0);
            without.addExample(6);
            with.addExample(6);
            due(rule[0] + ">" + rule[1], answersOf(with).equals(answersOf(without)) ? 1 : 0, 1);
        }
        HornRuleWorkbench w = with(4, 1, 2, 1, 4);
        w.setEnabled(0, 0);
        due("but it keeps its number", w.firedRule(1, 0), 1);
        due("and is counted", w.ruleCount(), 2);
        due("and is read", w.premise(0), 1);
        due("and is formatted", w.formatRules(), 7);
    }

    private static void closure() {
        says(0, "A set is closed if, for every enabled rule whose premise is a subset of it, the conclusion of the rule"
                + " is a subset of it, too.");
        HornRuleWorkbench w = with(3, 3, 5);
        due("the premise itself, the conclusion in part", w.isClosed(3), 0);
        due("premise and conclusion", w.isClosed(7), 1);
        due("a part of the premise", w.isClosed(1), 1);
        due("the conclusion alone", w.isClosed(5), 1);
        due("the empty set", w.isClosed(0), 1);
        due("every rule counts, the last too", withPairs().isClosed(24), 0);
        due("an empty premise", with(3, 0, 4).isClosed(3), 0);
        due("an empty conclusion", with(3, 0, 0).isClosed(0), 1);
        due("the full set", with(3, 0, 7).isClosed(7), 1);

        says(0, "The closure of a set is the smallest closed set that contains it; it always exists.");
        for (HornRuleWorkbench system : manySystems(6, 12)) {
            int[] premises = row(10, system::premise);
            int[] conclusions = row(10, system::conclusion);
            for (int set = 0; set < 64; set++) {
                int smallest = 63;
                for (int other = 0; other < 64; other++) {
                    if (isSubset(set, other) && follows(premises, conclusions, other)) {
                        smallest &= other;
                    }
                }
                due("closure(" + set + ")", system.closure(set), smallest);
            }
        }
        due("of the full set", with(6, 63, 63).closure(63), 63);
        due("of the empty set", with(6, 0, 63).closure(0), 63);

        says(0, "An implication, given by a premise and a conclusion, is entailed if its conclusion is a subset of the"
                + " closure of its premise.");
        HornRuleWorkbench u = with(4, 1, 2, 2, 4);
        due("the closure itself", u.entails(1, 7), 1);
        due("the closure and one attribute more", u.entails(1, 15), 0);
        due("nothing", u.entails(8, 0), 1);
        due("the premise itself", u.entails(12, 12), 1);
        due("the full set", u.entails(15, 15), 1);
        due("from the empty set", u.entails(0, 1), 0);
    }

    private static int[] row(int count, IntUnaryOperator call) {
        return IntStream.range(0, count).map(call).toArray();
    }

    private static boolean follows(int[] premises, int[] conclusions, int set) {
        for (int i = 0; i < premises.length; i++) {
            if (isSubset(premises[i], set) && !isSubset(conclusions[i], set)) {
                return false;
            }
        }
        return true;
    }

    private static void forwardChaining() {
        says(0, "Forward chaining from a set starts with that set as the current set.");
        HornRuleWorkbench w = with(4, 3, 4, 7, 8);
        dueRow("from the premise", step -> w.firedRule(3, step), 0, 1);
        dueRow("from a part of it", step -> w.firedRule(1, step));
        dueRow("from the second premise", step -> w.firedRule(7, step), 1);
        dueRow("from the end", step -> w.firedRule(15, step));

        says(0, "While there is an enabled rule whose premise is a subset of the current set and whose conclusion is not,"
                + " the rule with the lowest number among them fires: its conclusion is added to the current set.");
        HornRuleWorkbench u = with(6, 2, 4, 1, 3, 1, 8, 4, 16, 8, 24);
        // after rule 1 the lower rule 0 can fire; then 2 adds d; 3 adds e, so 4 has nothing to add
        dueRow("the lowest first", step -> u.firedRule(1, step), 1, 0, 2, 3);
        u.setEnabled(3, 0);
        dueRow("a disabled rule is passed over", step -> u.firedRule(1, step), 1, 0, 2, 4);
        due("a conclusion of which a part is there is added", with(2, 1, 3).firingCount(1), 1);
        due("a conclusion that is there is not", with(2, 1, 3).firingCount(3), 0);

        says(0, "The current set at the end is the closure.");
        for (HornRuleWorkbench system : manySystems(5, 12)) {
            for (int set = 0; set < 32; set++) {
                int current = set;
                int fired = system.firedRule(set, 0);
                for (int step = 1; fired >= 0 && step <= 6; step++) {
                    current |= system.conclusion(fired);
                    fired = system.firedRule(set, step);
                }
                due("from " + set, current, system.closure(set));
            }
        }
        due("nothing fires", with(6).closure(21), 21);
    }

    private static void canonicalBasis() {
        says(0, "A set is pseudo-closed if it is not closed and it contains the closure of every pseudo-closed set that is"
                + " a proper subset of it.");
        dueRow("the empty set, and none that lacks a", with(2, 0, 1)::basisPremise, 0);
        dueRow("{a, c} lacks b, but {a, b, c} has it", with(4, 1, 2, 5, 8)::basisPremise, 1, 7);
        dueRow("a set that is not closed for itself alone", with(2, 1, 2)::basisPremise, 1);
        dueRow("all but f", with(6, 31, 32)::basisPremise, 31);
        dueRow("a closed set is none", with(6, 3, 3)::basisPremise);

        says(0, "The canonical basis has one implication for each pseudo-closed set, from that set to its closure.");
        due("no rules", with(6).basisSize(), 0);
        due("two rules, one set", with(3, 1, 2, 1, 4).basisSize(), 1);
        dueRow("to the closure by both", with(3, 1, 2, 1, 4)::basisConclusion, 7);
        due("ten rules, ten sets", withPairs().basisSize(), 10);
        dueRow("the set is in its closure", with(2, 1, 2)::basisConclusion, 3);

        says(0, "Its implications are numbered from 0 in ascending order of their pseudo-closed sets.");
        HornRuleWorkbench w = with(6);
        for (int i = 9; i >= 0; i--) {
            w.addRule(PAIRS[i], 32);
        }
        dueRow("premises", w::basisPremise, PAIRS);
        dueRow("conclusions", w::basisConclusion, 35, 37, 38, 41, 42, 44, 49, 50, 52, 56);
    }

    private static void hypotheses() {
        says(0, "It keeps a list of pairs (s, r) of disjoint sets, which is empty at first.");
        due("nothing to learn", with(6).learnedCount(), 0);
        due("no pair to ask about in the first round", with(6, 3, 4).membershipQueries(), 0);
        for (HornRuleWorkbench system : manySystems(6, 40)) {
            for (int i = 0; i < system.learnedCount(); i++) {
                due("pair " + i, system.learnedPremise(i) & system.learnedConclusion(i), 0);
            }
        }

        says(0, "A pair acts as an implication from s to r; the hypothesis is the set of these implications.");
        for (HornRuleWorkbench system : manySystems(6, 40)) {
            int[] premises = row(system.learnedCount(), system::learnedPremise);
            int[] conclusions = row(premises.length, system::learnedConclusion);
            for (int set = 0; set < 64; set++) {
                int closed = follows(premises, conclusions, set) ? 1 : 0;
                due("at the end it is right for " + set, closed, system.isClosed(set));
            }
        }

        says(0, "An equivalence query returns the set with the lowest int value that is closed under exactly one of the"
                + " two, the enabled rules and the hypothesis.");
        dueRow("the empty set is looked at", with(6, 0, 63)::counterexample, 0);
        dueRow("all but f is looked at", with(6, 31, 32)::counterexample, 31);
        // 4 gives (4, 3); under it, but not under the rules, 5 is not closed
        dueRow("closed under one, closed under the other", with(3, 4, 1)::counterexample, 4, 5);
        dueRow("the lowest, not the first rule's", with(3, 4, 3, 1, 6)::counterexample, 1, 4);

        says(0, "If there is no such set, the learner stops.");
        dueRow("at once", with(6)::counterexample);
        dueRow("at once, as the rules say nothing", with(6, 63, 1, 3, 3, 0, 0)::counterexample);
        dueRow("after one round", with(1, 0, 1)::counterexample, 0);

        says(0, "Otherwise the set is the counterexample x of the round.");
        dueRow("three rounds", with(3, 1, 2, 2, 4)::counterexample, 1, 2, 6);
        due("learnerRounds", with(3, 1, 2, 2, 4).learnerRounds(), 3);
    }

    private static void positiveCounterexamples() {
        says(0, "If x is closed under the rules, it is a positive counterexample: in every pair whose s is a subset of x,"
                + " r is replaced by the intersection of r and x.");
        // 1 gives (1, 14) and 2 gives (2, 13); then 3 is closed under the rules
        HornRuleWorkbench both = with(4, 1, 2, 2, 1);
        dueRow("counterexamples", both::counterexample, 1, 2, 3);
        dueRow("both are replaced", both::learnedConclusion, 2, 1);
        due("one is positive", both.positiveCounterexamples(), 1);
        // 1 gives (1, 6) and 2 gives (2, 5); 6 is positive, and 1 is no subset of it
        HornRuleWorkbench one = with(3, 1, 2, 2, 4);
        dueRow("only the second is replaced", one::learnedConclusion, 6, 4);
        HornRuleWorkbench empty = with(6, 0, 32);
        dueRow("s is empty", empty::counterexample, 0, 32);
        dueRow("r becomes {f}", empty::learnedConclusion, 32);
    }

    private static void negativeCounterexamples() {
        says(0, "If x is not closed under the rules, it is a negative counterexample: the pairs are examined in the order"
                + " of the list.");
        // 3, 5 and 6 come: 1 is asked for 5; for 6 then 2, with the first pair, before 4
        HornRuleWorkbench w = with(4, 3, 15, 5, 15, 6, 15);
        dueRow("in order", w::queriedSet, 1, 2, 4);
        due("none is positive", w.positiveCounterexamples(), 0);

        says(0, "For each pair, if the intersection of s and x is a proper subset of s, the learner asks the membership"
                + " query whether that intersection is closed under the rules.");
        // 1 gives (1, 14), 3 makes it (1, 2); in 7 is all of 1, so nothing is asked
        HornRuleWorkbench equal = with(4, 1, 2, 5, 8);
        dueRow("counterexamples", equal::counterexample, 1, 3, 7);
        due("s is a subset of x: no query", equal.membershipQueries(), 0);
        dueRow("the intersection may be empty", with(2, 1, 3, 2, 3)::queriedSet, 0);
        dueRow("{b} of {a, b}", with(3, 3, 7, 6, 7)::queriedSet, 2);

        says(0, "At the first pair for which the answer is no, s is replaced by the intersection, r is replaced by the set"
                + " of all attributes that are not in the new s, and the examination ends.");
        // With the lowest counterexamples the answer is never no: NOTES.md tells why.
        for (HornRuleWorkbench system : manySystems(6, 200)) {
            int negative = system.learnerRounds() - system.positiveCounterexamples();
            due("so each negative one makes a pair", system.learnedCount(), negative);
            for (int i = 0; i < system.membershipQueries(); i++) {
                due("query " + i, system.isClosed(system.queriedSet(i)), 1);
            }
        }

        says(0, "If there is no such pair, the pair (x, all attributes that are not in x) is appended to the list.");
        dueRow("x is empty: s", with(6, 0, 63)::learnedPremise, 0);
        dueRow("x is empty: r", with(6, 0, 63)::learnedConclusion, 63);
        dueRow("x is all but f: s", with(6, 31, 32)::learnedPremise, 31);
        dueRow("x is all but f: r", with(6, 31, 32)::learnedConclusion, 32);
        dueRow("one attribute", with(1, 0, 1)::learnedConclusion, 1);
        dueRow("after those that were there", with(3, 4, 7, 2, 7, 1, 7)::learnedPremise, 1, 2, 4);
        dueRow("after those that were there", with(3, 4, 7, 2, 7, 1, 7)::learnedConclusion, 6, 5, 3);

        says(0, "The answers to membership queries are remembered, so the same set is never asked twice; a remembered"
                + " answer is used without a new query.");
        // for the sixth counterexample the empty set would be asked about five times
        dueRow("one query for all", with(6, 1, 63, 2, 63, 4, 63, 8, 63, 16, 63, 32, 63)::queriedSet, 0);
        for (HornRuleWorkbench system : manySystems(6, 40)) {
            for (int i = 0; i < system.membershipQueries(); i++) {
                due("query " + i + " is the first", system.queryPosition(system.queriedSet(i)), i);
            }
        }

        says(0, "Counterexamples are not membership queries.");
        HornRuleWorkbench keys = with(3, 1, 7, 2, 7, 4, 7);
        for (int i = 0; i < 3; i++) {
            due("counterexample " + i, keys.queryPosition(keys.counterexample(i)), NONE);
        }
        due("three counterexamples, one query", keys.membershipQueries(), 1);
    }

    private static void learnerAsAWhole() {
        says(0, "The learner always stops.");
        for (HornRuleWorkbench system : manySystems(6, 200)) {
            int rounds = system.learnerRounds();
            due("there is no round more", system.counterexample(rounds), NONE);
            due("there are not more pairs than rules", system.learnedCount() <= 10 ? 1 : 0, 1);
            due("it does not give up before", system.learnedCount(), system.basisSize());
        }

        says(0, "Every method that runs the learner starts it again with an empty list and no remembered answers.");
        HornRuleWorkbench w = with(3, 1, 7, 2, 7, 4, 7);
        for (int i = 0; i < 3; i++) {
            due("learnerRounds", w.learnerRounds(), 3);
            due("positiveCounterexamples", w.positiveCounterexamples(), 0);
            dueRow("counterexample", w::counterexample, 1, 2, 4);
            due("learnedCount", w.learnedCount(), 3);
            dueRow("learnedPremise", w::learnedPremise, 1, 2, 4);
            dueRow("learnedConclusion", w::learnedConclusion, 6, 5, 3);
            due("membershipQueries", w.membershipQueries(), 1);
            dueRow("queriedSet", w::queriedSet, 0);
            due("queryPosition", w.queryPosition(0), 0);
        }
        w.removeLastRule();
        dueRow("after an edit", w::counterexample, 1, 2);
        w.setEnabled(0, 0);
        dueRow("after another", w::learnedPremise, 2);
        due("no query is left", w.membershipQueries(), 0);
        w.setRule(1, 0, 1);
        due("positive ones of another rule", w.positiveCounterexamples(), 1);
        w.setRule(1, 0, 2);
        due("they are not added up", w.positiveCounterexamples(), 1);
        w.reset(3);
        due("no round is left", w.learnerRounds(), 0);
        due("no positive one is left", w.positiveCounterexamples(), 0);
    }

    private static void examples() {
        says(0, "An example is a set.");
        for (int n = 1; n <= 6; n++) {
            HornRuleWorkbench w = with(n);
            due("the empty set", w.addExample(0), 0);
            due("the full set", w.addExample((1 << n) - 1), 1);
            due("2^n", w.addExample(1 << n), BAD_SET);
            due("-1", w.addExample(-1), BAD_SET);
            dueRow("example", w::example, 0, (1 << n) - 1);
        }

        says(0, "Examples are numbered from 0 in the order in which they were added; there are at most 10, and equal"
                + " examples may occur.");
        HornRuleWorkbench u = with(6);
        int[] sets = {9, 9, 0, 63, 0, 1, 9, 2, 62, 9};
        for (int i = 0; i < 10; i++) {
            due("addExample", u.addExample(sets[i]), i);
        }
        due("the 11th", u.addExample(9), FULL);
        dueRow("example", u::example, sets);
        due("the equal ones count each", u.support(9), 5);

        says(0, "The context closure of a set X is the intersection of all examples of which X is a subset; it is the full"
                + " set if there is no such example.");
        for (int n = 1; n <= 6; n++) {
            due("no examples", with(n).contextClosure(0), (1 << n) - 1);
            due("no such example", withExamples(n, 0).contextClosure(1), (1 << n) - 1);
        }
        HornRuleWorkbench v = withExamples(4, 7, 13, 5, 5);
        due("all", v.contextClosure(0), 5);
        due("the example itself", v.contextClosure(13), 13);
        due("some", v.contextClosure(4), 5);
        due("one", v.contextClosure(2), 7);
        due("none", v.contextClosure(10), 15);

        says(0, "The support of a set is the number of examples of which it is a subset.");
        due("all, the empty set", v.support(0), 4);
        due("the example itself, twice", v.support(5), 4);
        due("the example itself", v.support(13), 1);
        due("none", v.support(15), 0);
        due("no examples", with(4).support(0), 0);
    }

    private static void exploration() {
        says(0, "The expert of the exploration knows the enabled rules.");
        HornRuleWorkbench w = with(1, 0, 1);
        dueRow("an enabled rule", w::isAccepted, 1);
        w.setEnabled(0, 0);
        dueRow("a disabled rule", w::isAccepted, 0);

        says(0, "The exploration uses its own list of examples, which starts with those examples that are closed under the"
                + " rules, in their order; the examples of the workbench do not change.");
        HornRuleWorkbench u = with(2, 1, 2);
        u.addExample(1);
        u.addExample(2);
        u.addExample(1);
        // 1 is not closed: 2 alone is known at first, and then 0 comes
        dueRow("premises", u::questionPremise, 0, 1);
        dueRow("conclusions", u::questionConclusion, 2, 3);
        dueRow("the examples stay", u::example, 1, 2, 1);
        HornRuleWorkbench none = with(1, 0, 1);
        none.addExample(0);
        dueRow("no example is closed", none::questionConclusion, 1);
        HornRuleWorkbench full = withExamples(1, 0, 0, 0, 0, 0, 0, 0, 0, 0, 0);
        due("all ten are closed", full.questionCount(), 0);
        due("all ten stay", full.exampleCount(), 10);

        says(0, "It goes through all sets P in ascending order.");
        for (int n = 1; n <= 6; n++) {
            HornRuleWorkbench all = with(n);
            for (int set = 0; set < (1 << n) - 1; set++) {
                due("question " + set, all.questionPremise(set), set);
            }
            due("not the full set, which is closed", all.questionPremise((1 << n) - 1), NONE);
        }

        says(0, "P is skipped if there is an accepted implication whose premise is a proper subset of P and whose"
                + " conclusion is not a subset of P.");
        // (0, 1) is accepted: 2 is skipped; 1 and 3 are not, and 1 is known by then
        dueRow("2 is skipped", with(2, 0, 1)::questionPremise, 0, 0);
        // (1, 3) is accepted: 5 is skipped; 7, which has a and b, is not, and would be the full set
        dueRow("5 is skipped", with(3, 1, 2)::questionPremise, 0, 1, 1, 2, 4, 6);
        // (1, 3) is accepted, and 7 is asked about, since it contains 3: c and a give d
        dueRow("7 is not", with(4, 1, 2, 5, 8)::questionPremise, 0, 1, 1, 2, 4, 6, 7, 8, 10, 11, 12, 14);
        due("all are skipped", with(6, 0, 63).questionCount(), 1);
    }

    private static void questions() {
        says(0, "Otherwise, while P is not equal to its context closure C, a question is asked: is the implication from P"
                + " to C entailed by the rules?");
        due("the full set is its own closure", withExamples(1, 0).questionCount(), 0);
        dueRow("an example is its own closure", withExamples(2, 1, 2)::questionPremise);
        dueRow("a set between is asked about", withExamples(2, 1)::questionPremise, 0, 2);
        dueRow("with its closure", withExamples(2, 1)::questionConclusion, 1, 3);

        says(0, "If it is, the implication is accepted, and the exploration goes on with the next set.");
        dueRow("accepted", with(2, 0, 3)::isAccepted, 1);
        dueRow("each once", with(2, 1, 2, 2, 1)::questionPremise, 0, 1, 2);
        dueRow("each accepted", with(2, 1, 2, 2, 1)::isAccepted, 0, 1, 1);

        says(0, "If it is not, the closure of P under the rules is appended to the list of examples as a counterexample,"
                + " and the same P is examined again.");
        HornRuleWorkbench again = with(3, 1, 2);
        dueRow("1 comes twice", again::questionPremise, 0, 1, 1, 2, 4, 6);
        dueRow("3 has come as a counterexample", again::questionConclusion, 7, 7, 3, 3, 7, 7);
        dueRow("and is accepted then", again::isAccepted, 0, 0, 1, 0, 0, 0);
        dueRow("a closed set comes once", with(1)::questionPremise, 0);

        says(0, "The list of the exploration has no limit.");
        HornRuleWorkbench w = withExamples(6, 63, 63, 63, 63, 63, 63, 63, 63, 63, 63);
        due("63 counterexamples beside ten examples", w.questionCount(), 63);
        due("the last question", w.questionPremise(62), 62);
        due("its conclusion", w.questionConclusion(62), 63);
        due("ten examples as before", w.exampleCount(), 10);
    }

    private static void edits() {
        says(0, "Each successful call of addRule, removeLastRule, setEnabled and setRule is one edit, and so is each"
                + " successful call of parseRules as a whole.");
        HornRuleWorkbench w = with(4);
        w.addRule(1, 2);
        due("addRule", w.undoCount(), 1);
        w.setEnabled(0, 0);
        due("setEnabled", w.undoCount(), 2);
        w.setRule(0, 2, 4);
        due("setRule", w.undoCount(), 3);
        parse(w, "a>b,b>c,c>d");
        due("parseRules with three rules", w.undoCount(), 4);
        w.removeLastRule();
        due("removeLastRule", w.undoCount(), 5);
        w.addRule(16, 0);
        w.setEnabled(4, 0);
        w.setEnabled(0, 2);
        w.setRule(4, 0, 0);
        w.setRule(0, 16, 0);
        parse(w, "a>b,");
        parse(w, ">" + ",>".repeat(7));
        due("refused calls", w.undoCount(), 5);
        w.addExample(1);
        w.clearExamples();
        w.save();
        w.formatRules();
        due("other calls", w.undoCount(), 5);
        for (int i = 0; i < 4; i++) {
            w.removeLastRule();
        }
        due("three of four: the last was refused", w.undoCount(), 8);

        says(0, "A call of setEnabled or setRule that leaves the rule as it was succeeds, but it is not an edit.");
        HornRuleWorkbench u = with(4, 1, 2, 2, 4);
        u.undo();
        due("setEnabled", u.setEnabled(0, 1), 1);
        due("setRule", u.setRule(0, 1, 2), 0);
        due("undoCount", u.undoCount(), 1);
        due("what is undone is not discarded", u.redoCount(), 1);
        u.setEnabled(0, 0);
        due("setEnabled of a disabled rule", u.setEnabled(0, 0), 0);
        due("setRule of a disabled rule", u.setRule(0, 1, 2), 0);
        due("undoCount", u.undoCount(), 2);

        says(0, "undo reverts the latest edit that is not undone; redo repeats the latest undone edit.");
        HornRuleWorkbench v = with(4, 1, 2, 2, 4, 4, 8);
        v.undo();
        v.undo();
        dueRow("two are undone", v::premise, 1);
        v.redo();
        dueRow("the second is there again", v::premise, 1, 2);
        v.undo();
        v.undo();
        dueRow("all are undone", v::premise);
        v.redo();
        v.redo();
        v.redo();
        dueRow("all are there again", v::premise, 1, 2, 4);

        says(0, "A new edit discards all undone edits.");
        v.undo();
        v.undo();
        due("two are undone", v.redoCount(), 2);
        v.addRule(8, 1);
        due("both are discarded", v.redoCount(), 0);
        due("redo", v.redo(), EMPTY);
        dueRow("the rules", v::premise, 1, 8);
        v.undo();
        due("one is undone", v.redoCount(), 1);
        parse(v, "a>b");
        due("parseRules discards it", v.redoCount(), 0);
        v.undo();
        v.removeLastRule();
        due("removeLastRule discards it", v.redoCount(), 0);
    }

    private static void twelveEdits() {
        says(0, "At most 12 edits are remembered; when a 13th would be remembered, the oldest is forgotten.");
        HornRuleWorkbench w = with(6, 0, 0);
        for (int i = 1; i <= 11; i++) {
            w.setRule(0, 0, i);
        }
        due("twelve", w.undoCount(), 12);
        for (int i = 0; i < 12; i++) {
            w.undo();
        }
        due("all twelve can be undone", w.ruleCount(), 0);
        for (int i = 0; i < 12; i++) {
            w.redo();
        }
        w.setRule(0, 0, 12);
        due("still twelve", w.undoCount(), 12);
        for (int i = 11; i >= 0; i--) {
            w.undo();
            due("undone", w.conclusion(0), i);
        }
        due("the first is forgotten", w.undo(), EMPTY);
        due("its rule stays", w.ruleCount(), 1);
        due("twelve can be redone", w.redoCount(), 12);
        w.redo();
        w.setRule(0, 63, 63);
        due("a new one after one", w.undoCount(), 2);
        for (int i = 0; i < 30; i++) {
            w.setRule(0, i, 0);
        }
        for (int i = 28; i >= 17; i--) {
            w.undo();
            due("undone", w.premise(0), i);
        }
        due("no more", w.undo(), EMPTY);

        says(0, "reset and restore forget all edits.");
        HornRuleWorkbench u = with(4, 1, 2, 2, 4);
        u.undo();
        u.save();
        u.restore();
        due("restore: undo", u.undo(), EMPTY);
        due("restore: redo", u.redo(), EMPTY);
        u.addRule(4, 8);
        u.addRule(4, 8);
        u.undo();
        u.reset(4);
        due("reset: undo", u.undo(), EMPTY);
        due("reset: redo", u.redo(), EMPTY);

        says(0, "Edits concern rules only; examples are not affected by undo and redo.");
        HornRuleWorkbench v = with(4, 1, 2);
        v.addExample(3);
        v.undo();
        dueRow("after undo", v::example, 3);
        v.addExample(5);
        v.redo();
        dueRow("after redo", v::example, 3, 5);
        v.clearExamples();
        v.undo();
        dueRow("after clearExamples and undo", v::example);
        due("addExample and clearExamples discard nothing", v.redoCount(), 1);
    }

    private static void buffers() {
        says(0, "There are three buffers, numbered 0 to 2.");
        HornRuleWorkbench w = new HornRuleWorkbench();
        for (int buffer = 0; buffer < 3; buffer++) {
            due("buffer " + buffer, w.createBuffer(buffer, 1, 1), 1);
            w.writeBuffer(buffer, 0, 70 + buffer);
        }
        for (int buffer = 0; buffer < 3; buffer++) {
            due("each has its own element", w.readBuffer(buffer, 0), 70 + buffer);
        }
        due("buffer -1", w.createBuffer(-1, 1, 1), BAD_ARGUMENT);
        due("buffer 3", w.createBuffer(3, 1, 1), BAD_ARGUMENT);

        says(0, "A buffer is missing at first.");
        for (int buffer = 0; buffer < 3; buffer++) {
            HornRuleWorkbench u = new HornRuleWorkbench();
            due("writeBuffer", u.writeBuffer(buffer, 0, 1), MISSING_BUFFER);
            due("readBuffer", u.readBuffer(buffer, 0), NO_VALUE);
            due("copyBuffer", u.copyBuffer(buffer, 0, buffer, 0, 0), MISSING_BUFFER);
            due("firstDifference", u.firstDifference(buffer), MISSING_BUFFER);
            u.createBuffer((buffer + 1) % 3, 0, 1);
            due("another was made", u.firstDifference(buffer), MISSING_BUFFER);
        }

        says(0, "An existing buffer is an array with elements of type byte (type 0), int (type 1) or long (type 2).");
        long[][] ends = {{-128, 127}, {MIN, MAX}, {Long.MIN_VALUE, Long.MAX_VALUE}};
        for (int type = 0; type < 3; type++) {
            HornRuleWorkbench u = new HornRuleWorkbench();
            u.createBuffer(0, type, 2);
            for (long end : ends[type]) {
                u.writeBuffer(0, 0, end);
                due("type " + type, u.readBuffer(0, 0), end);
            }
            u.writeBuffer(0, 1, ends[type][1] + 1);
            due("type " + type + ", beyond the greatest", u.readBuffer(0, 1), ends[type][0]);
        }
    }
}
