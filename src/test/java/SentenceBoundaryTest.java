/** The boundary cases of promises 6 to 10, and of fragments and dominance under "Terms". */
public final class SentenceBoundaryTest {
    private static final String FRAGMENTS = """
            == Terms: numbered from 0 in the order of the items; a quantifier item gives two fragments
            read not;every u:p(u);some v:p(v);not;no w:p(w);most x:p(x);q(u) -> 11 0
            kindOf(0) = 5; kindOf(1) = 1; kindOf(2) = 0; kindOf(3) = 2; kindOf(4) = 0; kindOf(5) = 5
            kindOf(6) = 3; kindOf(7) = 0; kindOf(8) = 4; kindOf(9) = 0; kindOf(10) = 0
            == Terms: A quantifier has two holes, 0 (for its restriction) and 1 (for its scope)
            read every u:p(u);some v:p(v);no w:p(w);most x:p(x);q(u) -> 9 0
            hasEdge(0, 0, 0) = false; hasEdge(0, 1, 0) = false; hasEdge(0, 2, 0) = throws IndexOutOfBoundsException
            hasEdge(2, 0, 0) = false; hasEdge(2, 1, 0) = false; hasEdge(2, 2, 0) = throws IndexOutOfBoundsException
            hasEdge(4, 0, 0) = false; hasEdge(4, 1, 0) = false; hasEdge(4, 2, 0) = throws IndexOutOfBoundsException
            hasEdge(6, 0, 0) = false; hasEdge(6, 1, 0) = false; hasEdge(6, 2, 0) = throws IndexOutOfBoundsException
            hasEdge(0, -1, 0) = throws IndexOutOfBoundsException
            == Terms: a negation has one hole, 0
            read not;no x:p(x);q(x) -> 4 0
            hasEdge(0, 0, 0) = false; hasEdge(0, 1, 0) = throws IndexOutOfBoundsException
            hasEdge(0, -1, 0) = throws IndexOutOfBoundsException
            == Terms: restrictions and the nucleus are leaves without holes
            read no x:p(x);q(x) -> 3 0
            hasEdge(1, 0, 0) = throws IndexOutOfBoundsException; hasEdge(1, 1, 0) = throws IndexOutOfBoundsException
            hasEdge(2, 0, 0) = throws IndexOutOfBoundsException; hasEdge(2, 1, 0) = throws IndexOutOfBoundsException
            """;

    private static final String EDGES = """
            == Terms: from hole 0 of each quantifier to its restriction
            read some x:p(x,y);some y:p(y,x);q(x,y) -> 5 0
            hasEdge(0, 0, 0) = false; hasEdge(0, 0, 1) = true; hasEdge(0, 0, 2) = false; hasEdge(0, 0, 3) = false
            hasEdge(0, 0, 4) = false; hasEdge(2, 0, 3) = true; hasEdge(2, 0, 1) = false; hasEdge(2, 0, 4) = false
            == Terms: from hole 1 of the quantifier of variable v to each leaf that contains v, but its own restriction
            read some x:p(x,x);some y:p(y,x);some z:p(x,z);q(x,y) -> 7 0
            hasEdge(0, 1, 1) = false; hasEdge(0, 1, 3) = true; hasEdge(0, 1, 5) = true; hasEdge(0, 1, 6) = true
            hasEdge(0, 1, 0) = false; hasEdge(0, 1, 2) = false; hasEdge(0, 1, 4) = false
            # y is the second variable of the nucleus, and in no other leaf but its own
            hasEdge(2, 1, 6) = true; hasEdge(2, 1, 1) = false; hasEdge(2, 1, 3) = false; hasEdge(2, 1, 5) = false
            # a leaf that contains v is enough, and the nucleus is not asked
            read some x:p(x,y);some y:q(y);q(x) -> 5 0
            hasEdge(2, 1, 1) = true; hasEdge(2, 1, 4) = false; hasEdge(2, 1, 3) = false
            # the letter in a name is no variable
            read some x:y(x);some y:x(y);y(x) -> 5 0
            hasEdge(2, 1, 1) = false; hasEdge(2, 1, 4) = true; hasEdge(0, 1, 3) = false; hasEdge(0, 1, 4) = true
            == Terms: if there is no such leaf, to the nucleus
            read some x:p(x);some y:p(y);q(x,x) -> 5 0
            hasEdge(2, 1, 4) = true; hasEdge(2, 1, 1) = false; hasEdge(2, 1, 3) = false
            == Terms: from the hole of each negation to the nucleus
            read not;some x:p(x);not;q(x) -> 5 0
            hasEdge(0, 0, 4) = true; hasEdge(3, 0, 4) = true; hasEdge(0, 0, 2) = false; hasEdge(3, 0, 2) = false
            hasEdge(0, 0, 1) = false; hasEdge(0, 0, 3) = false; hasEdge(0, 0, 0) = false; hasEdge(3, 0, 0) = false
            == Terms: Besides, there can be constraints, which are edges, too.
            read every x:p(x);some y:q(y);r(x,y) -> 5 0
            constrain(0, 1, 2) = 1; hasEdge(0, 1, 2) = true; hasEdge(0, 0, 2) = false; hasEdge(2, 1, 0) = false
            hasEdge(0, 1, 4) = true; place(0, 0) = 0; place(0, 2) = 2
            """;

    private static final String ASKED = """
            == promise 6: Returns the number of fragments; 0 if there is no sentence.
            fragments() = 0
            read q(x) -> -3 2
            fragments() = 0
            read no x:p(x);q(x) -> 3 0
            fragments() = 3
            read not;not;no u:p(u);no v:p(v);no w:p(w);no x:p(x);q(u) -> 11 0
            fragments() = 11
            read no -> -3 1
            fragments() = 11
            == promise 7: Returns 0 a leaf, 1 every, 2 some, 3 no, 4 most, 5 a negation.
            read every u:some(u);some v:no(v);no w:most(w);most x:not(x);not;every(u) -> 10 0
            kindOf(0) = 1; kindOf(1) = 0; kindOf(2) = 2; kindOf(3) = 0; kindOf(4) = 3; kindOf(5) = 0; kindOf(6) = 4
            kindOf(7) = 0; kindOf(8) = 5; kindOf(9) = 0
            == promise 7: Throws IndexOutOfBoundsException if there is no such fragment
            kindOf(0) = throws IndexOutOfBoundsException
            read not;not;no u:p(u);no v:p(v);no w:p(w);no x:p(x);q(u) -> 11 0
            kindOf(0) = 5; kindOf(10) = 0; kindOf(-1) = throws IndexOutOfBoundsException
            kindOf(11) = throws IndexOutOfBoundsException; kindOf(2147483647) = throws IndexOutOfBoundsException
            kindOf(-2147483648) = throws IndexOutOfBoundsException
            # a shorter sentence has fewer
            read no x:p(x);q(x) -> 3 0
            kindOf(2) = 0; kindOf(3) = throws IndexOutOfBoundsException; kindOf(10) = throws IndexOutOfBoundsException
            == promise 8: Throws IndexOutOfBoundsException if there is no such fragment
            hasEdge(0, 0, 0) = throws IndexOutOfBoundsException
            read no x:p(x);q(x) -> 3 0
            hasEdge(0, 0, 1) = true; hasEdge(-1, 0, 1) = throws IndexOutOfBoundsException
            hasEdge(3, 0, 1) = throws IndexOutOfBoundsException; hasEdge(-1, 2, 1) = throws IndexOutOfBoundsException
            hasEdge(2147483647, 0, 1) = throws IndexOutOfBoundsException
            hasEdge(-2147483648, 0, 1) = throws IndexOutOfBoundsException
            == promise 8: no such hole
            read not;no x:p(x);q(x) -> 4 0
            hasEdge(0, -1, 3) = throws IndexOutOfBoundsException; hasEdge(0, 1, 3) = throws IndexOutOfBoundsException
            hasEdge(0, 2, 3) = throws IndexOutOfBoundsException; hasEdge(1, -1, 3) = throws IndexOutOfBoundsException
            hasEdge(1, 2, 3) = throws IndexOutOfBoundsException; hasEdge(2, 0, 3) = throws IndexOutOfBoundsException
            hasEdge(3, 0, 3) = throws IndexOutOfBoundsException; hasEdge(1, 2147483647, 3) = throws IndexOutOfBoundsException
            hasEdge(1, -2147483648, 3) = throws IndexOutOfBoundsException; hasEdge(0, 0, 3) = true; hasEdge(1, 1, 3) = true
            == promise 8: or target
            read no x:p(x);q(x) -> 3 0
            hasEdge(0, 1, 2) = true; hasEdge(0, 1, 0) = false; hasEdge(0, 1, 3) = throws IndexOutOfBoundsException
            hasEdge(0, 1, -1) = throws IndexOutOfBoundsException; hasEdge(0, 1, 2147483647) = throws IndexOutOfBoundsException
            # 34 and -30 are 2 again if only five bits of them are looked at
            hasEdge(0, 1, 34) = throws IndexOutOfBoundsException; hasEdge(0, 1, -30) = throws IndexOutOfBoundsException
            hasEdge(0, 1, -2147483648) = throws IndexOutOfBoundsException
            """;

    private static final String CONSTRAINTS = """
            == promise 9: Adds a constraint, that is, an edge. (It can be there already.)
            read every x:p(x);some y:q(y);r(x,y) -> 5 0
            # as an edge of the sentence, and as a constraint
            constrain(0, 0, 1) = 2; constrain(0, 1, 4) = 2; constrain(0, 1, 2) = 1; constrain(0, 1, 2) = 1
            # each of the four counts
            constrain(0, 1, 3) = 1; constrain(2, 1, 4) = 1; constrain(0, 1, 2) = throws IllegalStateException
            release() = 1; release() = 1; release() = 1; hasEdge(0, 1, 2) = true; release() = 2; hasEdge(0, 1, 2) = false
            release() = 2; hasEdge(0, 1, 4) = true; release() = 2; hasEdge(0, 0, 1) = true
            == promise 9: Returns the number of readings then.
            read every x:p(x);some y:q(y);r(x,y) -> 5 0
            constrain(0, 1, 4) = 2; constrain(2, 1, 1) = 1; constrain(0, 1, 3) = 0; readings() = 0; constrain(0, 1, 4) = 0
            release() = 0; release() = 1; release() = 2
            # a fragment in its own hole, a fragment in a hole of what it holds
            constrain(0, 1, 0) = 0; release() = 2; constrain(0, 0, 0) = 0; release() = 2; constrain(2, 0, 2) = 0
            release() = 2; constrain(2, 1, 0) = 1; constrain(0, 1, 2) = 0
            == promise 9: a sentence without readings can be constrained, too
            read every x:p(x,y);some y:p(y,x);r(x) -> 5 0
            readings() = 0; constrain(0, 1, 2) = 0; hasEdge(0, 1, 2) = true; release() = 0
            == promise 9: no such fragment
            constrain(0, 0, 0) = throws IndexOutOfBoundsException
            read not;no x:p(x);q(x) -> 4 0
            constrain(-1, 0, 3) = throws IndexOutOfBoundsException; constrain(4, 0, 3) = throws IndexOutOfBoundsException
            constrain(2147483647, 0, 3) = throws IndexOutOfBoundsException
            constrain(-2147483648, 0, 3) = throws IndexOutOfBoundsException; release() = throws IllegalStateException
            == promise 9: no such hole
            read not;no x:p(x);q(x) -> 4 0
            constrain(0, 1, 3) = throws IndexOutOfBoundsException; constrain(0, -1, 3) = throws IndexOutOfBoundsException
            constrain(1, 2, 3) = throws IndexOutOfBoundsException; constrain(1, -1, 3) = throws IndexOutOfBoundsException
            constrain(2, 0, 3) = throws IndexOutOfBoundsException; constrain(3, 0, 3) = throws IndexOutOfBoundsException
            constrain(1, 2147483647, 3) = throws IndexOutOfBoundsException
            constrain(1, -2147483648, 3) = throws IndexOutOfBoundsException; release() = throws IllegalStateException
            == promise 9: or target
            read not;no x:p(x);q(x) -> 4 0
            constrain(1, 1, -1) = throws IndexOutOfBoundsException; constrain(1, 1, 4) = throws IndexOutOfBoundsException
            constrain(1, 1, 35) = throws IndexOutOfBoundsException
            constrain(1, 1, 2147483647) = throws IndexOutOfBoundsException
            constrain(1, 1, -2147483648) = throws IndexOutOfBoundsException; release() = throws IllegalStateException
            constrain(1, 1, 3) = 2; constrain(1, 1, 0) = 1
            == promise 9: Throws IllegalStateException if there are 6 constraints already
            read no x:p(x);q(x) -> 3 0
            constrain(0, 1, 2) = 1; constrain(0, 1, 2) = 1; constrain(0, 1, 2) = 1; constrain(0, 1, 2) = 1
            constrain(0, 1, 2) = 1; constrain(0, 1, 2) = 1; constrain(0, 1, 2) = throws IllegalStateException
            constrain(0, 0, 2) = throws IllegalStateException; readings() = 1; hasEdge(0, 0, 2) = false
            # one less: one more
            release() = 1; constrain(0, 0, 2) = 0; constrain(0, 0, 2) = throws IllegalStateException; release() = 1
            release() = 1; release() = 1; release() = 1; release() = 1; release() = 1
            release() = throws IllegalStateException
            == promise 9: both exceptions apply, and the one that is listed first is thrown
            read not;no x:p(x);q(x) -> 4 0
            constrain(0, 0, 3) = 2; constrain(0, 0, 3) = 2; constrain(0, 0, 3) = 2
            constrain(0, 0, 3) = 2; constrain(0, 0, 3) = 2; constrain(0, 0, 3) = 2
            constrain(4, 0, 3) = throws IndexOutOfBoundsException; constrain(-1, 0, 3) = throws IndexOutOfBoundsException
            constrain(0, 1, 3) = throws IndexOutOfBoundsException; constrain(3, 0, 3) = throws IndexOutOfBoundsException
            constrain(0, 0, 4) = throws IndexOutOfBoundsException; constrain(0, 0, -1) = throws IndexOutOfBoundsException
            constrain(0, 0, 3) = throws IllegalStateException
            == promise 10: Removes the constraint that was added last. Returns the number of readings then.
            read some x:a(x);not;some y:b(y);c(x,y) -> 6 0
            constrain(2, 0, 3) = 3; constrain(0, 1, 2) = 1; release() = 3; hasEdge(0, 1, 2) = false; hasEdge(2, 0, 3) = true
            constrain(2, 0, 0) = 2; release() = 3; release() = 6; hasEdge(2, 0, 3) = false
            # from no readings to some
            constrain(0, 0, 0) = 0; release() = 6; readings() = 6
            == promise 10: Throws IllegalStateException if there is no constraint
            release() = throws IllegalStateException
            read no x:p(x);q(x) -> 3 0
            release() = throws IllegalStateException; constrain(0, 1, 2) = 1; release() = 1
            release() = throws IllegalStateException; constrain(0, 1, 2) = 1
            read no x:p(x);q(x) -> 3 0
            release() = throws IllegalStateException
            """;

    private static final String[] SENTENCES = {
        "no x:p(x);q(x)", "not;no x:p(x);q(x)", "not;every x:p(x);not;some y:p(y);q(x)",
        "not;not;no u:p(u);no v:p(v);no w:p(w);no x:p(x);q(u)",
    };

    public static void main(String[] args) {
        int wrong = Script.run("fragments", FRAGMENTS) + Script.run("edges", EDGES)
                + Script.run("asked", ASKED) + Script.run("constraints", CONSTRAINTS);
        for (String sentence : SENTENCES) {
            wrong += countHoles(sentence);
        }
        Script.exit(wrong);
    }

    /** "There is one hole less than there are fragments." */
    private static int countHoles(String sentence) {
        ScopeLister lister = new ScopeLister();
        sentence.chars().forEach(lister::type);
        int fragments = lister.readSentence();
        int holes = 0;
        for (int fragment = 0; fragment < fragments; fragment++) {
            for (int hole = 0; hole < 3; hole++) {
                boolean isThere = !Script.answer(lister, "hasEdge", fragment, hole, 0).startsWith("throws");
                holes += isThere ? 1 : 0;
            }
        }
        if (holes != fragments - 1) {
            System.out.println(sentence + " has " + holes + " holes");
        }
        return holes == fragments - 1 ? 0 : 1;
    }
}
