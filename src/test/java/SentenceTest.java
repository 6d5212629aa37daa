/** Promises 6 to 10: fragments, edges and constraints. */
public final class SentenceTest {
    private static final String FRAGMENTS = """
            fragments() = 0; kindOf(0) = throws IndexOutOfBoundsException
            text every u:p(u);some v:p(v);no w:p(w);most x:p(x);not;q(u)
            readSentence() = 10; fragments() = 10
            kindOf(0) = 1; kindOf(1) = 0; kindOf(2) = 2; kindOf(3) = 0; kindOf(4) = 3; kindOf(5) = 0
            kindOf(6) = 4; kindOf(7) = 0; kindOf(8) = 5; kindOf(9) = 0
            kindOf(10) = throws IndexOutOfBoundsException; kindOf(-1) = throws IndexOutOfBoundsException
            text not;some x:p(x);q(x)
            readSentence() = 4; fragments() = 4; kindOf(0) = 5; kindOf(1) = 2; kindOf(3) = 0
            kindOf(4) = throws IndexOutOfBoundsException
            """;

    private static final String EDGES = """
            hasEdge(0, 0, 0) = throws IndexOutOfBoundsException
            # the scope edge of y leads to the leaf of x alone, that of x not to its own restriction
            text every x:of(x,y);some y:co(y);saw(x)
            readSentence() = 5
            hasEdge(0, 0, 1) = true; hasEdge(0, 0, 3) = false; hasEdge(0, 0, 4) = false
            hasEdge(0, 1, 4) = true; hasEdge(0, 1, 1) = false; hasEdge(0, 1, 2) = false; hasEdge(0, 1, 0) = false
            hasEdge(2, 0, 3) = true; hasEdge(2, 1, 1) = true; hasEdge(2, 1, 3) = false; hasEdge(2, 1, 4) = false
            hasEdge(1, 0, 0) = throws IndexOutOfBoundsException; hasEdge(4, 0, 0) = throws IndexOutOfBoundsException
            hasEdge(0, 2, 0) = throws IndexOutOfBoundsException; hasEdge(0, -1, 0) = throws IndexOutOfBoundsException
            hasEdge(5, 0, 0) = throws IndexOutOfBoundsException; hasEdge(-1, 0, 0) = throws IndexOutOfBoundsException
            hasEdge(0, 0, 5) = throws IndexOutOfBoundsException; hasEdge(0, 0, -1) = throws IndexOutOfBoundsException
            # a variable that only its own restriction contains: the nucleus; negations: the nucleus
            text some x:p(x,x);not;some y:q(y);r(y)
            readSentence() = 6
            hasEdge(0, 1, 5) = true; hasEdge(0, 1, 1) = false; hasEdge(0, 1, 4) = false; hasEdge(3, 1, 5) = true
            hasEdge(2, 0, 5) = true; hasEdge(2, 0, 4) = false; hasEdge(2, 1, 5) = throws IndexOutOfBoundsException
            # a variable in several leaves: restrictions before and behind, and the nucleus
            text some x:p(x,y);some y:q(y);some z:p(z,y);r(y)
            readSentence() = 7
            hasEdge(2, 1, 1) = true; hasEdge(2, 1, 5) = true; hasEdge(2, 1, 6) = true; hasEdge(2, 1, 3) = false
            hasEdge(0, 1, 6) = true; hasEdge(4, 1, 6) = true; hasEdge(4, 1, 5) = false
            """;

    private static final String CONSTRAIN = """
            constrain(0, 0, 0) = throws IndexOutOfBoundsException
            text some x:a(x);not;some y:b(y);c(x,y)
            readSentence() = 6; readings() = 6
            constrain(6, 0, 0) = throws IndexOutOfBoundsException; constrain(-1, 0, 0) = throws IndexOutOfBoundsException
            constrain(1, 0, 0) = throws IndexOutOfBoundsException; constrain(2, 1, 0) = throws IndexOutOfBoundsException
            constrain(0, 2, 0) = throws IndexOutOfBoundsException; constrain(0, -1, 0) = throws IndexOutOfBoundsException
            constrain(0, 0, 6) = throws IndexOutOfBoundsException; constrain(0, 0, -1) = throws IndexOutOfBoundsException
            release() = throws IllegalStateException
            constrain(2, 0, 3) = 3; hasEdge(2, 0, 3) = true
            orders = 0 1 2 3 4 5 / 2 0 1 3 4 5 / 2 3 4 0 1 5
            constrain(0, 1, 2) = 1; constrain(0, 1, 2) = 1; constrain(0, 0, 1) = 1; constrain(2, 0, 0) = 0
            constrain(0, 0, 0) = 0; readings() = 0
            # six are enough, but a wrong hole is told first
            constrain(0, 1, 2) = throws IllegalStateException; constrain(0, 1, 6) = throws IndexOutOfBoundsException
            constrain(1, 0, 0) = throws IndexOutOfBoundsException; readings() = 0
            # what was added last goes first; an edge of the sentence, or one that is there twice, stays
            release() = 0; hasEdge(0, 0, 0) = false; hasEdge(2, 0, 0) = true
            release() = 1; hasEdge(2, 0, 0) = false
            release() = 1; hasEdge(0, 0, 1) = true
            release() = 1; hasEdge(0, 1, 2) = true
            release() = 3; hasEdge(0, 1, 2) = false
            release() = 6; hasEdge(2, 0, 3) = false; hasEdge(2, 0, 5) = true
            release() = throws IllegalStateException; readings() = 6
            """;

    private static final String CONTRADICTIONS = """
            text every x:a(x);some y:b(y);c(x,y)
            readSentence() = 5
            # into its own hole, both above one another, a leaf in two holes of one fragment
            constrain(0, 1, 0) = 0; release() = 2; constrain(0, 1, 2) = 1; constrain(2, 1, 0) = 0
            release() = 1; release() = 2; constrain(0, 0, 4) = 0; release() = 2
            # a restriction can't be the place of the other quantifier here, as the nucleus is in its scope
            constrain(0, 0, 2) = 0; release() = 2; constrain(0, 1, 3) = 1
            orders = 0 1 2 3 4
            # constraints are gone with the sentence, errors leave them
            text p
            readSentence() = -2; readings() = 1; clearText() = 1
            text every x:a(x);some y:b(y);c(x,y)
            readSentence() = 5; readings() = 2; release() = throws IllegalStateException
            """;

    public static void main(String[] args) {
        Script.exit(Script.run("fragments", FRAGMENTS) + Script.run("edges", EDGES)
                + Script.run("constrain", CONSTRAIN) + Script.run("contradictions", CONTRADICTIONS));
    }
}
