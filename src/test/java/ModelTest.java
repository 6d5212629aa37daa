/** Promises 24 to 31: models, and the fingerprint. */
public final class ModelTest {
    private static final String DOMAIN = """
            setDomain(0) = throws IllegalArgumentException; setDomain(4) = throws IllegalArgumentException
            setDomain(-2147483648) = throws IllegalArgumentException
            setDomain(3) = 2; setDomain(1) = 3; setDomain(2) = 1; setDomain(2) = 2
            text some x:p(x);q(x,x)
            readSentence() = 3
            setFact(0, 1, 0, true) = false; setFact(1, 1, 1, true) = false; truth(0) = true
            # a call that throws changes nothing, each other one drops the facts
            setDomain(4) = throws IllegalArgumentException; truth(0) = true; setFact(0, 1, 0, true) = true
            setDomain(2) = 2; truth(0) = false; setFact(0, 1, 0, false) = false; setFact(1, 1, 1, false) = false
            """;

    private static final String PREDICATES = """
            predicates() = 0; arity(0) = throws IndexOutOfBoundsException
            text some x:b(x);some y:a(y,x);some z:b(z);not;a(z,z)
            readSentence() = 8; predicates() = 2; arity(0) = 1; arity(1) = 2
            arity(2) = throws IndexOutOfBoundsException; arity(-1) = throws IndexOutOfBoundsException
            text some x:ab(x);some y:a(y);some z:abc(z,z);ba(x,y)
            readSentence() = 7; predicates() = 4; arity(0) = 1; arity(1) = 1; arity(2) = 2; arity(3) = 2
            text q
            readSentence() = -2; predicates() = 4; clearText() = 1
            text some x:p(x);p(x)
            readSentence() = 3; predicates() = 1; arity(1) = throws IndexOutOfBoundsException
            """;

    private static final String FACTS = """
            setFact(0, 0, 0, true) = throws IndexOutOfBoundsException
            text some x:p(x);q(x,x)
            readSentence() = 3
            setFact(0, 0, 0, true) = false; setFact(0, 0, 0, true) = true; setFact(0, 0, 0, false) = true
            setFact(0, 0, 0, false) = false
            setFact(1, 0, 1, true) = false; setFact(1, 1, 0, false) = false; setFact(1, 0, 1, true) = true
            setFact(2, 0, 0, true) = throws IndexOutOfBoundsException
            setFact(-1, 0, 0, true) = throws IndexOutOfBoundsException
            setFact(0, 2, 0, true) = throws IllegalArgumentException; setFact(0, -1, 0, true) = throws IllegalArgumentException
            setFact(0, 0, 1, true) = throws IllegalArgumentException; setFact(0, 0, -1, true) = throws IllegalArgumentException
            setFact(1, 0, 2, true) = throws IllegalArgumentException; setFact(1, 0, -1, true) = throws IllegalArgumentException
            setFact(1, 2, 0, true) = throws IllegalArgumentException; setFact(1, -1, 0, true) = throws IllegalArgumentException
            # no such predicate is told first
            setFact(2, 5, 5, true) = throws IndexOutOfBoundsException
            setDomain(3) = 2
            setFact(0, 2, 0, true) = false; setFact(1, 2, 2, true) = false; setFact(0, 2, 1, true) = throws IllegalArgumentException
            setFact(1, 3, 0, true) = throws IllegalArgumentException; setFact(1, 0, 3, true) = throws IllegalArgumentException
            setFact(0, 2, 0, false) = true; setFact(1, 2, 2, false) = true
            setDomain(1) = 3; setFact(0, 1, 0, true) = throws IllegalArgumentException
            setFact(1, 0, 1, true) = throws IllegalArgumentException; setFact(1, 0, 0, true) = false
            """;

    private static final String ONE_QUANTIFIER = """
            truth(0) = throws IndexOutOfBoundsException
            text every x:p(x);q(x)
            readSentence() = 3; setDomain(3) = 2
            truth(0) = true; setFact(0, 0, 0, true) = false; truth(0) = false; setFact(1, 0, 0, true) = false
            truth(0) = true; setFact(0, 2, 0, true) = false; truth(0) = false; setFact(1, 1, 0, true) = false
            truth(0) = false; truth(1) = throws IndexOutOfBoundsException; truth(-1) = throws IndexOutOfBoundsException
            text some x:p(x);q(x)
            readSentence() = 3; truth(0) = false; setFact(0, 2, 0, true) = false; truth(0) = false
            setFact(1, 0, 0, true) = false; truth(0) = false; setFact(1, 2, 0, true) = false; truth(0) = true
            text no x:p(x);q(x)
            readSentence() = 3; truth(0) = true; setFact(0, 2, 0, true) = false; truth(0) = true
            setFact(1, 0, 0, true) = false; truth(0) = true; setFact(1, 2, 0, true) = false; truth(0) = false
            # most: more than half of those of the restriction
            text most x:p(x);q(x)
            readSentence() = 3; truth(0) = false; setFact(0, 0, 0, true) = false; truth(0) = false
            setFact(1, 0, 0, true) = false; truth(0) = true; setFact(0, 1, 0, true) = false; truth(0) = false
            setFact(1, 2, 0, true) = false; truth(0) = false; setFact(0, 2, 0, true) = false; truth(0) = true
            setFact(1, 0, 0, false) = true; truth(0) = false
            text not;some x:p(x);p(x)
            readSentence() = 4; readings() = 2; truth(0) = true; truth(1) = false
            setFact(0, 0, 0, true) = false; truth(0) = false; truth(1) = false
            """;

    private static final String SEVERAL_QUANTIFIERS = """
            trueReadings() = throws IllegalStateException
            nextDifferent(0) = throws IllegalStateException; nextDifferent(-1) = throws IllegalStateException
            text every x:p(x);some y:p(y);r(x,y)
            readSentence() = 5; setFact(0, 0, 0, true) = false; setFact(0, 1, 0, true) = false
            truth(0) = false; truth(1) = false; trueReadings() = 0; nextDifferent(0) = -1
            # each has another one: r is a matter of the order of its arguments
            setFact(1, 0, 1, true) = false; setFact(1, 1, 0, true) = false
            truth(0) = true; truth(1) = false; trueReadings() = 1
            nextDifferent(0) = 1; nextDifferent(1) = 1; nextDifferent(2) = -1; nextDifferent(2147483647) = -1
            nextDifferent(-1) = throws IndexOutOfBoundsException
            nextDifferent(-2147483648) = throws IndexOutOfBoundsException
            setFact(1, 1, 0, false) = true; setFact(1, 0, 0, true) = false; truth(0) = false; truth(1) = false
            setFact(1, 0, 0, false) = true; setFact(1, 1, 1, true) = false; truth(0) = true; truth(1) = true
            trueReadings() = 2; nextDifferent(0) = -1
            # the numbers of the readings move with a constraint, and so does their truth
            setFact(1, 1, 1, false) = true; setFact(1, 1, 0, true) = false; trueReadings() = 1
            constrain(2, 1, 0) = 1; truth(0) = false; trueReadings() = 0; truth(1) = throws IndexOutOfBoundsException
            release() = 2; truth(0) = true; trueReadings() = 1
            # a quantifier in the restriction of another one
            text every x:of(x,y);some y:co(y);saw(x)
            readSentence() = 5; truth(0) = true; truth(1) = false; nextDifferent(0) = 1
            setFact(1, 0, 0, true) = false; truth(1) = true; setFact(0, 1, 0, true) = false
            truth(0) = false; truth(1) = false; setFact(1, 1, 0, true) = false; truth(0) = false; truth(1) = true
            setFact(2, 1, 0, true) = false; truth(0) = true; trueReadings() = 2
            """;

    private static final String FINGERPRINT = """
            fingerprint() = 35557
            setDomain(3) = 2; fingerprint() = 35557
            # ((37 * 31 + 3) * 31 + 1), then 0, 1, 2, class 0, not weak, not true
            text some x:p(x);q(x)
            readSentence() = 3; fingerprint() = 31640394714434
            setFact(0, 2, 0, true) = false; setFact(1, 2, 0, true) = false; fingerprint() = 31640394714435
            new
            # asked first: the order 0 1 2 3 4, class 0, weak, true, and then 2 3 0 1 4, class 1, not weak, not true
            text every x:p(x);some y:q(y);r(x,y)
            readSentence() = 5; fingerprint() = -8530236946653985185
            """;

    public static void main(String[] args) {
        Script.exit(Script.run("domain", DOMAIN) + Script.run("predicates", PREDICATES)
                + Script.run("facts", FACTS) + Script.run("one quantifier", ONE_QUANTIFIER)
                + Script.run("several quantifiers", SEVERAL_QUANTIFIERS)
                + Script.run("fingerprint", FINGERPRINT));
    }
}
