/** Promises 17 to 32: closed sets, keys, generators, the canonical basis and the covers of rules. */
public final class LatticeTest {
    public static void main(String[] args) {
        closedSets();
        chainLength();
        upperCovers();
        irreducibles();
        minimalKeys();
        generators();
        canonicalBasis();
        redundancy();
        reducedPremise();
        Due.end();
    }

    private static void due(String call, long got, long want) {
        Due.due(call, got, want);
    }

    /** Three attributes, a implies b, b implies c: the closed sets are 0, 4, 6 and 7. */
    private static HornRuleWorkbench chain() {
        HornRuleWorkbench w = new HornRuleWorkbench();
        w.reset(3);
        w.addRule(1, 2);
        w.addRule(2, 4);
        return w;
    }

    private static void closedSets() {
        HornRuleWorkbench w = chain();
        due("17 closedSetCount", w.closedSetCount(), 4);
        int[] closed = {0, 4, 6, 7};
        for (int i = 0; i < closed.length; i++) {
            due("18 closedSet(" + i + ")", w.closedSet(i), closed[i]);
        }
        due("18 closedSet(4)", w.closedSet(4), -2);
        due("18 closedSet(-1)", w.closedSet(-1), -2);
        due("18 closedSet(MAX)", w.closedSet(Integer.MAX_VALUE), -2);
        w.setEnabled(0, 0);
        due("17 without a implies b", w.closedSetCount(), 6);
        w.reset(6);
        due("17 all 64", w.closedSetCount(), 64);
        due("18 the last of 64", w.closedSet(63), 63);
        due("18 closedSet(64)", w.closedSet(64), -2);
        w.addRule(0, 63);
        due("17 only the full set", w.closedSetCount(), 1);
        due("18 the full set", w.closedSet(0), 63);
    }

    private static void chainLength() {
        HornRuleWorkbench w = chain();
        due("19 0, 4, 6, 7", w.chainLength(), 4);
        w.addRule(0, 4);
        due("19 4, 6, 7", w.chainLength(), 3);
        w.addRule(0, 7);
        due("19 7", w.chainLength(), 1);
        w.reset(6);
        due("19 no rules", w.chainLength(), 7);
        w.addRule(1, 2);
        w.addRule(2, 1);
        due("19 a and b only together", w.chainLength(), 6);
        w.reset(1);
        due("19 one attribute", w.chainLength(), 2);
        w.reset(3);
        w.addRule(1, 7);
        w.addRule(2, 7);
        w.addRule(4, 7);
        due("19 0 and 7", w.chainLength(), 2);
    }

    private static void upperCovers() {
        HornRuleWorkbench w = chain();
        due("20 of 0", w.upperCoverCount(0), 1);
        due("20 of the full set", w.upperCoverCount(7), 0);
        due("20 of a set that is not closed", w.upperCoverCount(1), -2);
        due("20 of 8", w.upperCoverCount(8), -1);
        due("20 of -1", w.upperCoverCount(-1), -1);
        w.reset(4);
        w.addRule(3, 4);
        // closed: no a, or no b, or a, b and c; above 1 are 5 and 9, and 7 lies above 5
        due("20 of 0 with four single sets above", w.upperCoverCount(0), 4);
        due("20 of 1", w.upperCoverCount(1), 2);
        due("20 of 5", w.upperCoverCount(5), 2);
        due("20 of 8", w.upperCoverCount(8), 3);
        due("20 of 9: only 13; 15 lies above that", w.upperCoverCount(9), 1);
        due("20 of 3", w.upperCoverCount(3), -2);
        w.reset(2);
        w.addRule(1, 2);
        w.addRule(2, 1);
        due("20 one cover that two attributes lead to", w.upperCoverCount(0), 1);
        w.reset(2);
        w.addRule(2, 1);
        due("20 b leads beyond the cover that a leads to", w.upperCoverCount(0), 1);
        w.reset(3);
        w.addRule(2, 4);
        due("20 a and c; what b leads to lies above c", w.upperCoverCount(0), 2);
    }

    private static void irreducibles() {
        HornRuleWorkbench w = chain();
        due("21 0, 4 and 6", w.irreducibleCount(), 3);
        due("22 irreducible(0)", w.irreducible(0), 0);
        due("22 irreducible(1)", w.irreducible(1), 4);
        due("22 irreducible(2)", w.irreducible(2), 6);
        due("22 the full set is none", w.irreducible(3), -2);
        due("22 irreducible(-1)", w.irreducible(-1), -2);
        w.reset(3);
        due("21 no rules: those with one attribute less", w.irreducibleCount(), 3);
        due("22 3", w.irreducible(0), 3);
        due("22 5", w.irreducible(1), 5);
        due("22 6", w.irreducible(2), 6);
        w.addRule(0, 7);
        due("21 only the full set is closed", w.irreducibleCount(), 0);
        due("22 irreducible(0)", w.irreducible(0), -2);
        w.reset(6);
        due("21 six attributes", w.irreducibleCount(), 6);
        due("22 the lowest of six", w.irreducible(0), 31);
        due("22 the highest of six", w.irreducible(5), 62);
    }

    private static void minimalKeys() {
        HornRuleWorkbench w = new HornRuleWorkbench();
        w.addRule(1, 2);
        w.addRule(2, 1);
        w.addRule(6, 8);
        // c must be in a key, and a or b; {a, c} gives b and then d
        due("23 5 and 6", w.minimalKeyCount(), 2);
        due("24 minimalKey(0)", w.minimalKey(0), 5);
        due("24 minimalKey(1)", w.minimalKey(1), 6);
        due("24 minimalKey(2)", w.minimalKey(2), -2);
        due("24 minimalKey(-1)", w.minimalKey(-1), -2);
        w.reset(3);
        due("23 no rules", w.minimalKeyCount(), 1);
        due("24 no rules", w.minimalKey(0), 7);
        w.addRule(0, 7);
        due("23 the empty set is a key", w.minimalKeyCount(), 1);
        due("24 the empty set", w.minimalKey(0), 0);
        w.reset(6);
        w.addRule(16, 32);
        w.addRule(32, 16);
        due("23 six attributes", w.minimalKeyCount(), 2);
        due("24 all but f", w.minimalKey(0), 31);
        due("24 all but e", w.minimalKey(1), 47);
    }

    private static void generators() {
        HornRuleWorkbench w = new HornRuleWorkbench();
        w.addRule(1, 2);
        w.addRule(2, 12);
        w.addRule(8, 4);
        due("25 of c: a, b and d", w.generatorCount(2), 3);
        due("26 a", w.generator(2, 0), 1);
        due("26 b", w.generator(2, 1), 2);
        due("26 d", w.generator(2, 2), 8);
        due("26 no fourth", w.generator(2, 3), -2);
        due("26 position -1", w.generator(2, -1), -2);
        due("25 of a: none", w.generatorCount(0), 0);
        due("26 of a", w.generator(0, 0), -2);
        due("25 attribute 4", w.generatorCount(4), -2);
        due("25 attribute -1", w.generatorCount(-1), -2);
        due("25 attribute 31", w.generatorCount(31), -2);
        due("26 attribute 4", w.generator(4, 0), -2);
        due("26 attribute -1", w.generator(-1, 0), -2);
        w.addRule(0, 4);
        due("25 the empty set generates c", w.generatorCount(2), 1);
        due("26 the empty set", w.generator(2, 0), 0);
        w.reset(3);
        w.addRule(3, 4);
        due("25 a and b together", w.generatorCount(2), 1);
        due("26 3", w.generator(2, 0), 3);
        w.reset(6);
        w.addRule(48, 1);
        due("25 the last two of six attributes", w.generatorCount(0), 1);
        due("26 48", w.generator(0, 0), 48);
    }

    private static void canonicalBasis() {
        HornRuleWorkbench w = new HornRuleWorkbench();
        due("27 no rules", w.basisSize(), 0);
        due("28 no rules", w.basisPremise(0), -2);
        due("29 no rules", w.basisConclusion(0), -2);
        w.addRule(1, 2);
        w.addRule(5, 8);
        w.addRule(3, 2);
        // {a} is pseudo-closed; {a, c} does not contain b, but {a, b, c} does, and misses d
        due("27 basisSize", w.basisSize(), 2);
        due("28 basisPremise(0)", w.basisPremise(0), 1);
        due("29 basisConclusion(0)", w.basisConclusion(0), 3);
        due("28 basisPremise(1)", w.basisPremise(1), 7);
        due("29 basisConclusion(1)", w.basisConclusion(1), 15);
        due("28 basisPremise(2)", w.basisPremise(2), -2);
        due("29 basisConclusion(2)", w.basisConclusion(2), -2);
        due("28 basisPremise(-1)", w.basisPremise(-1), -2);
        due("29 basisConclusion(-1)", w.basisConclusion(-1), -2);
        w.addRule(0, 4);
        due("27 with nothing implies c", w.basisSize(), 2);
        due("28 the empty set", w.basisPremise(0), 0);
        due("29 the empty set", w.basisConclusion(0), 4);
        due("28 a and c", w.basisPremise(1), 5);
        due("29 a and c", w.basisConclusion(1), 15);
        w.setEnabled(3, 0);
        due("27 the last rule disabled", w.basisSize(), 2);
        due("28 the last rule disabled", w.basisPremise(0), 1);
    }

    private static void redundancy() {
        HornRuleWorkbench w = new HornRuleWorkbench();
        due("30 no rules", w.redundantRules(), 0);
        due("31 no rules", w.irredundantCover(), 0);
        w.addRule(1, 2);
        w.addRule(1, 2);
        w.addRule(7, 3);
        w.addRule(2, 4);
        // the twins make each other redundant; rule 2 says nothing new
        due("30 redundantRules", w.redundantRules(), 0b0111);
        due("31 the later twin stays", w.irredundantCover(), 0b1010);
        w.setEnabled(1, 0);
        due("30 without the twin", w.redundantRules(), 0b0100);
        due("31 without the twin", w.irredundantCover(), 0b1001);
        w.reset(4);
        w.addRule(1, 8);
        w.addRule(4, 8);
        w.addRule(2, 4);
        w.addRule(1, 2);
        due("30 a rule that follows from three others", w.redundantRules(), 0b0001);
        due("31 without it", w.irredundantCover(), 0b1110);
        w.reset(4);
        for (int i = 0; i < 10; i++) {
            w.addRule(3, 3);
        }
        due("30 ten rules", w.redundantRules(), 1023);
        due("31 ten rules", w.irredundantCover(), 0);
    }

    private static void reducedPremise() {
        HornRuleWorkbench w = new HornRuleWorkbench();
        due("32 no rule 0", w.reducedPremise(0), -2);
        w.addRule(1, 2);
        w.addRule(3, 4);
        w.addRule(15, 4);
        due("32 a alone gives b", w.reducedPremise(1), 1);
        due("32 c alone has the conclusion", w.reducedPremise(2), 4);
        due("32 nothing to leave out", w.reducedPremise(0), 1);
        due("32 rule 3", w.reducedPremise(3), -2);
        due("32 rule -1", w.reducedPremise(-1), -2);
        w.setEnabled(0, 0);
        due("32 a disabled rule does not help", w.reducedPremise(1), 3);
        due("32 of the disabled rule", w.reducedPremise(0), 1);
        w.addRule(8, 2);
        w.setRule(0, 9, 2);
        due("32 a disabled rule by the others", w.reducedPremise(0), 8);
        w.addRule(12, 12);
        due("32 a conclusion inside the premise", w.reducedPremise(4), 12);
        w.addRule(12, 0);
        due("32 an empty conclusion", w.reducedPremise(5), 0);
        lowestFirst();
    }

    /** a and b imply each other, so either could be left out of the premise {a, b}. */
    private static void lowestFirst() {
        HornRuleWorkbench w = new HornRuleWorkbench();
        w.addRule(1, 2);
        w.addRule(2, 1);
        w.addRule(3, 4);
        due("32 a is left out first", w.reducedPremise(2), 2);
    }
}
