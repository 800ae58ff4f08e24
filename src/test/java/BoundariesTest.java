/** Runs the tests of single sentences and tells each sentence of the document that has none. */
public final class BoundariesTest {
    /** Headings, and sentences that only name what the other sentences of the promise tell in full. */
    private static final String[] WITHOUT_BOUNDARY = {
        "0 A workbench for definite Horn implications over a small set of attributes.",
        "0 It computes closures, the canonical basis (Duquenne-Guigues basis), minimal keys and minimal "
            + "generators, it simulates the HORN learning algorithm of Angluin, Frazier and Pitt with "
            + "membership and equivalence queries, and it simulates attribute exploration on example sets.",
        "0 Attributes and sets.",
        "0 Rules.",
        "0 Closure.",
        "0 Forward chaining.",
        "0 Canonical basis.",
        "0 Learner.",
        "0 The learner does not know the rules.",
        "0 One round is as follows.",
        "0 Examples.",
        "0 Exploration.",
        "0 Edits.",
        "0 Buffers.",
        "0 Errors.",
        "0 The constants:",
        "0 The constructor and the methods follow, a promise each: the signature, then what it does.",
        "3 Returns the number of attributes.",
        "11 Returns whether a rule is enabled.",
        "17 Returns the number of closed sets.",
        "21 Returns the number of meet-irreducible closed sets.",
        "23 Returns the number of minimal keys.",
        "25 Returns the number of minimal generators of an attribute.",
        "27 Returns the size of the canonical basis.",
        "28 Returns the premise of an implication of the canonical basis.",
        "29 Returns the conclusion of an implication of the canonical basis.",
        "30 Returns the redundant rules.",
        "31 Returns an irredundant cover of the enabled rules.",
        "32 Returns the left-reduced premise of a rule.",
        "33 Returns the number of rounds.",
        "34 Runs the learner and returns the counterexample of a round.",
        "35 Returns the number of positive counterexamples.",
        "36 Returns the number of pairs.",
        "37 Runs the learner and returns the set s of a pair in its final list.",
        "38 Runs the learner and returns the set r of a pair in its final list.",
        "39 Returns the number of membership queries.",
        "40 Runs the learner and returns the set of a membership query.",
        "41 Runs the learner and returns the position at which a set was asked in a membership query.",
        "43 Adds an example.",
        "45 Returns the number of examples.",
        "46 Returns an example.",
        "47 Returns the context closure of a set.",
        "48 Returns the support of a set.",
        "51 Returns the number of questions.",
        "52 Runs the exploration and returns the premise of a question.",
        "54 Runs the exploration and returns whether the implication of a question was accepted.",
        "67 Returns an element of a buffer.",
        "72 Returns the number of edits that can be undone.",
        "73 Returns the number of edits that can be redone.",
    };

    public static void main(String[] args) {
        DescriptionBoundaries.run();
        ErrorBoundaries.run();
        RuleBoundaries.run();
        LatticeBoundaries.run();
        LearnerBoundaries.run();
        ExampleBoundaries.run();
        TextBoundaries.run();
        BufferBoundaries.run();
        Boundaries.dueAllClaimed(WITHOUT_BOUNDARY);
        Due.end();
    }
}
