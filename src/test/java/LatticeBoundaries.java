/** The sentences of promises 17 to 32, a method for each promise. */
final class LatticeBoundaries extends Boundaries {
    static void run() {
        closedSetCount();
        closedSet();
        chainLength();
        upperCoverCount();
        irreducibleCount();
        irreducible();
        minimalKeyCount();
        minimalKey();
        generatorCount();
        generator();
        basisSize();
        basisPremise();
        basisConclusion();
        redundantRules();
        irredundantCover();
        reducedPremise();
    }

    /** b implies c, and a with c implies b: closed are 0, 1, 4, 6 and 7, where 4 and 6 lie beside 1. */
    private static HornRuleWorkbench pentagon() {
        return with(3, 2, 4, 5, 2);
    }

    /** a and b imply each other, so do c and d, and so do e and f. */
    private static HornRuleWorkbench threeTwins() {
        return with(6, 1, 2, 2, 1, 4, 8, 8, 4, 16, 32, 32, 16);
    }

    private static int[] numbers(int count) {
        int[] numbers = new int[count];
        for (int i = 0; i < count; i++) {
            numbers[i] = i;
        }
        return numbers;
    }

    private static void closedSetCount() {
        says(17, "Returns the number of closed sets, at least 1.");
        for (int n = 1; n <= 6; n++) {
            due("only the full set", with(n, 0, (1 << n) - 1).closedSetCount(), 1);
            due("no rules", with(n).closedSetCount(), 1 << n);
        }
        due("the pentagon", pentagon().closedSetCount(), 5);
        due("any two of three twins", threeTwins().closedSetCount(), 8);
    }

    private static void closedSet() {
        says(18, "Returns a closed set by its position among all closed sets in ascending order.");
        dueRow("the pentagon", pentagon()::closedSet, 0, 1, 4, 6, 7);
        dueRow("three twins", threeTwins()::closedSet, 0, 3, 12, 15, 48, 51, 60, 63);

        says(18, "`position`: the position, 0 for the lowest");
        due("0 is the lowest", with(3).closedSet(0), 0);
        due("5 is the lowest", with(3, 0, 5).closedSet(0), 5);
        due("63 is the lowest", with(6, 0, 63).closedSet(0), 63);

        says(18, "Returns the closed set, or NONE if there is no such position.");
        dueRow("the full set alone", with(6, 0, 63)::closedSet, 63);
        for (int n = 1; n <= 6; n++) {
            dueRow("all sets", with(n)::closedSet, numbers(1 << n));
        }
    }

    private static void chainLength() {
        says(19, "Returns the length of the longest chain of closed sets, in which each set is a proper subset of"
                + " the next one.");
        due("0, 4, 6, 7; the other way is shorter", pentagon().chainLength(), 4);
        due("three twins", threeTwins().chainLength(), 4);
        due("1, 2 and 4 lie beside one another", with(3, 3, 4, 5, 2, 6, 1).chainLength(), 3);

        says(19, "The length is the number of sets in the chain.");
        due("one set", with(1, 0, 1).chainLength(), 1);
        due("two sets", with(1).chainLength(), 2);
        due("seven sets", with(6).chainLength(), 7);

        says(19, "Returns the length, at least 1.");
        for (int n = 1; n <= 6; n++) {
            due("only the full set", with(n, 0, (1 << n) - 1).chainLength(), 1);
            due("no rules", with(n).chainLength(), n + 1);
        }
    }

    private static void upperCoverCount() {
        says(20, "Returns the number of upper covers of a closed set.");
        for (int n = 1; n <= 6; n++) {
            due("no rules, the empty set", with(n).upperCoverCount(0), n);
            due("no rules, the full set", with(n).upperCoverCount((1 << n) - 1), 0);
        }

        says(20, "An upper cover of X is a closed set Y such that X is a proper subset of Y and no closed set Z has X"
                + " as a proper subset and is a proper subset of Y.");
        HornRuleWorkbench w = pentagon();
        due("of 0: 1 and 4, but not 6 and 7", w.upperCoverCount(0), 2);
        due("of 1: 7", w.upperCoverCount(1), 1);
        due("of 4: 6", w.upperCoverCount(4), 1);
        due("of 6: 7", w.upperCoverCount(6), 1);
        due("of 7: not itself", w.upperCoverCount(7), 0);
        due("twins lead to one cover", with(2, 1, 2, 2, 1).upperCoverCount(0), 1);
        due("three twins", threeTwins().upperCoverCount(0), 3);

        says(20, "Returns the number of upper covers; BAD_SET if the set is not valid (checked first);"
                + " NONE if the set is not closed.");
        due("2 is not closed", w.upperCoverCount(2), NONE);
        due("5 is not closed", w.upperCoverCount(5), NONE);
        for (int n = 1; n <= 6; n++) {
            int full = (1 << n) - 1;
            HornRuleWorkbench u = with(n, 0, full);
            due("the empty set is not closed", u.upperCoverCount(0), NONE);
            due("all but a are not closed", u.upperCoverCount(full - 1), NONE);
            due("the full set", u.upperCoverCount(full), 0);
            dueEach("upperCoverCount", u::upperCoverCount, BAD_SET, notSets(n));
        }
    }

    private static void irreducibleCount() {
        says(21, "A closed set is meet-irreducible if it has exactly one upper cover.");
        due("not 0 with two covers, not 7 with none", pentagon().irreducibleCount(), 3);
        due("only the full set is closed", with(6, 0, 63).irreducibleCount(), 0);
        due("one attribute, no rules: 0", with(1).irreducibleCount(), 1);
        due("six attributes, no rules", with(6).irreducibleCount(), 6);
        due("a chain: all but the full set", with(3, 1, 2, 2, 4).irreducibleCount(), 3);
    }

    private static void irreducible() {
        says(22, "Returns a meet-irreducible closed set by its position in ascending order.");
        dueRow("the pentagon", pentagon()::irreducible, 1, 4, 6);
        dueRow("three twins", threeTwins()::irreducible, 15, 51, 60);

        says(22, "`position`: the position, 0 for the lowest");
        due("a chain", with(3, 1, 2, 2, 4).irreducible(0), 0);
        due("no rules", with(3).irreducible(0), 3);

        says(22, "Returns the set, or NONE if there is no such position.");
        dueRow("there is none", with(6, 0, 63)::irreducible);
        dueRow("one", with(1)::irreducible, 0);
        dueRow("six", with(6)::irreducible, 31, 47, 55, 59, 61, 62);
    }

    private static void minimalKeyCount() {
        says(23, "A key is a set whose closure is the full set.");
        due("the full set alone", with(6).minimalKeyCount(), 1);
        due("the full set alone", with(6).minimalKey(0), 63);
        due("closure 62 is not enough", with(6, 0, 62).minimalKey(0), 1);
        due("closure 31 is not enough", with(6, 0, 31).minimalKey(0), 32);
        due("the empty set", with(6, 0, 63).minimalKey(0), 0);

        says(23, "A key is minimal if no proper subset of it is a key.");
        due("the empty set is below all", with(6, 0, 63, 1, 63).minimalKeyCount(), 1);
        due("{f}, which is a proper subset of the others", with(6, 32, 31).minimalKeyCount(), 1);
        due("{f}", with(6, 32, 31).minimalKey(0), 32);
        due("each attribute alone", with(3, 1, 7, 2, 7, 4, 7).minimalKeyCount(), 3);
        due("{a} and {b, c}", with(3, 1, 7, 6, 7).minimalKeyCount(), 2);

        says(23, "Returns the number of minimal keys, at least 1.");
        for (int n = 1; n <= 6; n++) {
            due("no rules", with(n).minimalKeyCount(), 1);
            due("the empty set is a key", with(n, 0, (1 << n) - 1).minimalKeyCount(), 1);
        }
        due("one of each of three twins", threeTwins().minimalKeyCount(), 8);
    }

    private static void minimalKey() {
        says(24, "Returns a minimal key by its position in ascending order.");
        dueRow("three twins", threeTwins()::minimalKey, 21, 22, 25, 26, 37, 38, 41, 42);

        says(24, "`position`: the position, 0 for the lowest");
        due("{a} is lower than {b, c}", with(3, 6, 7, 1, 7).minimalKey(0), 1);
        due("{a, b} is lower than {c}", with(3, 4, 7, 3, 7).minimalKey(0), 3);

        says(24, "Returns the minimal key, or NONE if there is no such position.");
        for (int n = 1; n <= 6; n++) {
            dueRow("no rules", with(n)::minimalKey, (1 << n) - 1);
            dueRow("the empty set is a key", with(n, 0, (1 << n) - 1)::minimalKey, 0);
        }
    }

    private static void generatorCount() {
        says(25, "A minimal generator of attribute a is a set that does not contain a, whose closure contains a, and no"
                + " proper subset of which has a closure that contains a.");
        due("{a} does not count", with(1).generatorCount(0), 0);
        due("the empty set", with(1, 0, 1).generatorCount(0), 1);
        due("the empty set is below all", with(6, 0, 32, 1, 32, 3, 32).generatorCount(5), 1);
        due("{a} is below {a, b}", with(3, 3, 4, 1, 4).generatorCount(2), 1);
        due("{a} and {b}", with(3, 1, 4, 2, 4).generatorCount(2), 2);
        due("ten pairs", withPairs().generatorCount(5), 10);
        due("by way of another attribute", with(3, 1, 2, 2, 4).generatorCount(2), 2);

        says(25, "Returns the number of minimal generators, or NONE if there is no such attribute.");
        for (int n = 1; n <= 6; n++) {
            HornRuleWorkbench w = with(n, 0, (1 << n) - 1);
            due("attribute 0", w.generatorCount(0), 1);
            due("the last attribute", w.generatorCount(n - 1), 1);
            dueEach("generatorCount", w::generatorCount, NONE, -1, n, n + 1, 31, 32, -32, MIN, MAX);
        }
    }

    private static void generator() {
        says(26, "Returns a minimal generator of an attribute by its position in ascending order.");
        HornRuleWorkbench w = with(4, 8, 4, 3, 4);
        dueRow("of c", position -> w.generator(2, position), 3, 8);
        HornRuleWorkbench pairs = withPairs();
        dueRow("ten pairs", position -> pairs.generator(5, position), PAIRS);

        says(26, "`position`: the position, 0 for the lowest");
        due("the lowest", w.generator(2, 0), 3);
        due("of ten", pairs.generator(5, 0), 3);

        says(26, "Returns the minimal generator, or NONE if there is no such attribute or no such position.");
        for (int n = 1; n <= 6; n++) {
            HornRuleWorkbench u = with(n, 0, (1 << n) - 1);
            int last = n - 1;
            dueRow("attribute 0", position -> u.generator(0, position), 0);
            dueRow("the last attribute", position -> u.generator(last, position), 0);
            dueEach("generator", attribute -> u.generator(attribute, 0), NONE, -1, n, n + 1, 31, 32, MIN, MAX);
            due("neither attribute nor position", u.generator(n, -1), NONE);
        }
        dueRow("an attribute without one", position -> w.generator(0, position));
    }

    private static void basisSize() {
        says(27, "Returns the number of implications of the canonical basis, which is the number of pseudo-closed sets.");
        for (int n = 1; n <= 6; n++) {
            due("no rules", with(n).basisSize(), 0);
            due("the empty set alone", with(n, 0, (1 << n) - 1).basisSize(), 1);
        }
        due("rules that say nothing", with(6, 63, 63, 3, 1, 0, 0).basisSize(), 0);
        due("ten", withPairs().basisSize(), 10);
        due("two rules with one premise", with(3, 1, 2, 1, 4).basisSize(), 1);
    }

    private static void basisPremise() {
        says(28, "Returns the pseudo-closed set, or NONE if there is no such implication.");
        dueRow("no rules", with(6)::basisPremise);
        dueRow("the empty set", with(6, 0, 63)::basisPremise, 0);
        dueRow("all but f", with(6, 31, 32)::basisPremise, 31);
        dueRow("ten", withPairs()::basisPremise, PAIRS);
    }

    private static void basisConclusion() {
        says(29, "Returns the closure of the premise, or NONE if there is no such implication.");
        dueRow("no rules", with(6)::basisConclusion);
        dueRow("the full set", with(6, 0, 63)::basisConclusion, 63);
        dueRow("the premise is in it", with(6, 31, 32)::basisConclusion, 63);
        dueRow("ten", withPairs()::basisConclusion, 35, 37, 38, 41, 42, 44, 49, 50, 52, 56);
    }

    private static void redundantRules() {
        says(30, "An enabled rule is redundant if its implication is entailed by the other enabled rules alone.");
        due("a rule that says nothing, alone", with(3, 3, 1).redundantRules(), 1);
        due("a rule alone", with(3, 1, 3).redundantRules(), 0);
        due("twins, each by the other", with(3, 1, 2, 1, 2).redundantRules(), 3);
        due("by two others", with(3, 1, 4, 1, 2, 2, 4).redundantRules(), 1);
        due("a part of its conclusion is not enough", with(3, 1, 6, 1, 2).redundantRules(), 2);
        HornRuleWorkbench w = with(3, 1, 2, 1, 2);
        w.setEnabled(1, 0);
        due("a disabled twin does not help", w.redundantRules(), 0);

        says(30, "Returns an int whose bit k is 1 if rule k is enabled and redundant.");
        due("no rules", with(6).redundantRules(), 0);
        due("no redundant rule of ten", withPairs().redundantRules(), 0);
        HornRuleWorkbench u = withPairs();
        u.setRule(9, 0, 0);
        due("the last of ten", u.redundantRules(), 512);
        u.setEnabled(9, 0);
        due("disabled", u.redundantRules(), 0);
        HornRuleWorkbench v = with(6);
        for (int i = 0; i < 10; i++) {
            v.addRule(63, 63);
        }
        due("all ten", v.redundantRules(), 1023);
    }

    private static void irredundantCover() {
        says(31, "It starts with all enabled rules.");
        HornRuleWorkbench w = withPairs();
        due("ten that are needed", w.irredundantCover(), 1023);
        w.setEnabled(0, 0);
        due("nine that are enabled", w.irredundantCover(), 1022);
        due("no rules", with(6).irredundantCover(), 0);

        says(31, "The rules are examined in ascending order of their numbers, and a rule is removed from the cover if"
                + " its implication is entailed by the other rules that are still in the cover.");
        due("of twins the later stays", with(3, 1, 2, 1, 2).irredundantCover(), 2);
        due("of three the last stays", with(3, 1, 2, 1, 2, 1, 2).irredundantCover(), 4);
        due("a rule that says nothing, alone", with(3, 3, 1).irredundantCover(), 0);
        // in the cycle a, b, c and back, a implies c goes, and then all the others are needed
        due("a cycle and a way back", with(3, 1, 4, 1, 2, 2, 4, 4, 1).irredundantCover(), 14);
        HornRuleWorkbench u = with(3, 1, 2, 1, 2);
        u.setEnabled(1, 0);
        due("a disabled twin does not help", u.irredundantCover(), 1);

        says(31, "Returns an int whose bit k is 1 if rule k is in the cover.");
        HornRuleWorkbench v = with(6);
        for (int i = 0; i < 10; i++) {
            v.addRule(1, 2);
        }
        due("the last of ten", v.irredundantCover(), 512);
        due("all ten", withPairs().irredundantCover(), 1023);
        due("the first alone", with(3, 1, 2).irredundantCover(), 1);
    }

    private static void reducedPremise() {
        says(32, "It starts with the premise of the rule.");
        due("nothing can go", with(3, 6, 1).reducedPremise(0), 6);
        due("an empty premise", with(3, 0, 7).reducedPremise(0), 0);
        due("the full set, the last attribute alone is needed", with(6, 63, 32).reducedPremise(0), 32);

        says(32, "The attributes are examined in ascending order, and an attribute is removed from the premise if the"
                + " conclusion of the rule is still a subset of the closure, under all enabled rules, of the premise"
                + " without the attribute.");
        due("of twins a goes first", with(3, 1, 2, 2, 1, 3, 4).reducedPremise(2), 2);
        due("the last attribute goes too", with(6, 33, 1).reducedPremise(0), 1);
        due("an empty conclusion needs nothing", with(6, 63, 0).reducedPremise(0), 0);
        due("the rule itself helps", with(3, 1, 2, 3, 4, 1, 4).reducedPremise(1), 1);
        due("a part of the conclusion is not enough", with(3, 3, 4, 1, 4, 3, 7).reducedPremise(2), 3);
        HornRuleWorkbench w = with(3, 1, 2, 3, 4);
        w.setEnabled(0, 0);
        due("a disabled rule does not help", w.reducedPremise(1), 3);

        says(32, "`rule`: the number of the rule, enabled or not");
        HornRuleWorkbench u = with(3, 3, 4, 1, 4);
        u.setEnabled(0, 0);
        due("a disabled rule", u.reducedPremise(0), 1);
        u.setEnabled(1, 0);
        due("a disabled rule does not entail itself", u.reducedPremise(1), 1);
        due("nothing is entailed now: the premise as it is", u.reducedPremise(0), 3);

        says(32, "Returns the left-reduced premise, or NONE if there is no such rule.");
        dueRow("no rules", with(6)::reducedPremise);
        dueRow("ten rules", withPairs()::reducedPremise, PAIRS);
    }
}
