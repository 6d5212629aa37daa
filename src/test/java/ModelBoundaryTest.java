import java.math.BigInteger;

/** The boundary cases of promises 24 to 31, and of models under "Terms". */
public final class ModelBoundaryTest {
    private static final String DOMAIN = """
            == Terms: 1 <= n <= 3, initially 2
            setDomain(2) = 2
            read no x:p(x);q(x,x) -> 3 0
            setFact(0, 1, 0, false) = false; setFact(0, 2, 0, false) = throws IllegalArgumentException
            setDomain(1) = 2; setFact(0, 0, 0, false) = false; setFact(0, 1, 0, false) = throws IllegalArgumentException
            setDomain(3) = 1; setFact(0, 2, 0, false) = false; setFact(0, 3, 0, false) = throws IllegalArgumentException
            == Terms: the names of the atoms of the sentence, numbered from 0 in the order of their first occurrences
            read some x:b(x);some y:a(y,x);some z:b(z);a(z,z) -> 7 0
            predicates() = 2; arity(0) = 1; arity(1) = 2
            setFact(1, 1, 1, true) = false; setFact(0, 1, 0, true) = false; truth(0) = true
            # a name is the same if all its letters are
            read some x:abcde(x);some y:abcd(y);some z:bbcde(z);abcde(y) -> 7 0
            predicates() = 3; setFact(0, 1, 0, true) = false; setFact(1, 1, 0, true) = false; truth(0) = false
            setFact(2, 0, 0, true) = false; truth(0) = true
            == promise 24: Sets the size of the domain. Returns the previous size.
            setDomain(3) = 2; setDomain(1) = 3; setDomain(1) = 1; setDomain(2) = 1; setDomain(2) = 2
            read every x:p(x);q(x) -> 3 0
            # a sentence leaves it
            setDomain(3) = 2
            read every x:p(x);q(x) -> 3 0
            setDomain(3) = 3
            == promise 24: Nothing is a fact then.
            read some x:p(x);q(x,x) -> 3 0
            setFact(0, 1, 0, true) = false; setFact(1, 1, 1, true) = false; truth(0) = true
            # also if the size stays
            setDomain(2) = 2; truth(0) = false; setFact(0, 1, 0, true) = false; setFact(1, 1, 1, true) = false
            # and what was outside for a while is none, either
            setDomain(1) = 2; setDomain(2) = 1; setFact(0, 1, 0, false) = false; setFact(1, 1, 1, false) = false
            == promise 24: Throws IllegalArgumentException if n is out of its range
            setDomain(0) = throws IllegalArgumentException; setDomain(4) = throws IllegalArgumentException
            setDomain(-1) = throws IllegalArgumentException; setDomain(2147483647) = throws IllegalArgumentException
            setDomain(-2147483648) = throws IllegalArgumentException; setDomain(1) = 2; setDomain(3) = 1
            # the facts stay
            read some x:p(x);p(x) -> 3 0
            setFact(0, 2, 0, true) = false; setDomain(0) = throws IllegalArgumentException
            setDomain(4) = throws IllegalArgumentException; truth(0) = true; setFact(0, 2, 0, true) = true
            """;

    private static final String PREDICATES = """
            == promise 25: Returns the number of predicates; 0 if there is no sentence.
            predicates() = 0
            read q(x) -> -3 2
            predicates() = 0
            # the least and the most
            read no x:p(x);p(x) -> 3 0
            predicates() = 1
            read no u:a(u);no v:b(v);no w:c(w);no x:d(x);e(u) -> 9 0
            predicates() = 5
            read no u:a(u);no v:b(v);no w:a(w);no x:d(x);d(u) -> 9 0
            predicates() = 3
            == promise 26: Throws IndexOutOfBoundsException if there is no such predicate
            arity(0) = throws IndexOutOfBoundsException
            read no u:a(u);no v:b(v,v);no w:c(w);no x:d(x,x);e(u,u) -> 9 0
            arity(0) = 1; arity(1) = 2; arity(2) = 1; arity(3) = 2; arity(4) = 2
            arity(5) = throws IndexOutOfBoundsException; arity(-1) = throws IndexOutOfBoundsException
            arity(2147483647) = throws IndexOutOfBoundsException; arity(-2147483648) = throws IndexOutOfBoundsException
            read no x:p(x);p(x) -> 3 0
            arity(0) = 1; arity(1) = throws IndexOutOfBoundsException
            == promise 27: Makes something a fact or not. Returns true if it was a fact before.
            read no x:p(x);q(x,x) -> 3 0
            setFact(0, 0, 0, false) = false; setFact(0, 0, 0, true) = false; setFact(0, 0, 0, true) = true
            setFact(0, 0, 0, false) = true; setFact(0, 0, 0, false) = false
            setFact(1, 0, 1, true) = false; setFact(1, 1, 0, true) = false; setFact(1, 0, 1, false) = true
            setFact(1, 1, 0, true) = true
            == promise 27: Throws IndexOutOfBoundsException if there is no such predicate
            setFact(0, 0, 0, true) = throws IndexOutOfBoundsException
            read no x:p(x);q(x,x) -> 3 0
            setFact(2, 0, 0, true) = throws IndexOutOfBoundsException
            setFact(-1, 0, 0, true) = throws IndexOutOfBoundsException
            setFact(2147483647, 0, 0, true) = throws IndexOutOfBoundsException
            setFact(-2147483648, 0, 0, true) = throws IndexOutOfBoundsException
            setFact(2, 0, 0, false) = throws IndexOutOfBoundsException
            == promise 27: Throws IllegalArgumentException if a is not as described
            read no x:p(x);q(x,x) -> 3 0
            setFact(0, -1, 0, true) = throws IllegalArgumentException; setFact(0, 2, 0, true) = throws IllegalArgumentException
            setFact(1, -1, 0, true) = throws IllegalArgumentException; setFact(1, 2, 0, true) = throws IllegalArgumentException
            setFact(1, 2147483647, 0, true) = throws IllegalArgumentException
            setFact(1, -2147483648, 0, true) = throws IllegalArgumentException
            setFact(0, 1, 0, true) = false; setFact(1, 1, 0, true) = false
            == promise 27: or b is not as described
            read no x:p(x);q(x,x) -> 3 0
            setFact(1, 0, -1, true) = throws IllegalArgumentException; setFact(1, 0, 2, true) = throws IllegalArgumentException
            setFact(1, 0, 2147483647, true) = throws IllegalArgumentException
            setFact(1, 0, -2147483648, true) = throws IllegalArgumentException; setFact(1, 0, 1, true) = false
            # also to make it no fact
            setFact(1, 0, 2, false) = throws IllegalArgumentException; setFact(1, 2, 0, false) = throws IllegalArgumentException
            == promise 27: it must be 0 for a predicate with one argument
            read no x:p(x);q(x,x) -> 3 0
            setFact(0, 0, 1, true) = throws IllegalArgumentException; setFact(0, 0, -1, true) = throws IllegalArgumentException
            setFact(0, 1, 1, false) = throws IllegalArgumentException; setFact(0, 0, 2, true) = throws IllegalArgumentException
            setDomain(3) = 2; setFact(0, 0, 1, true) = throws IllegalArgumentException
            setFact(0, 0, 2, true) = throws IllegalArgumentException; setFact(0, 0, 0, true) = false
            == promise 27: 0 to n - 1, with the least and the largest domain
            read no x:p(x);q(x,x) -> 3 0
            setDomain(1) = 2; setFact(1, 0, 0, true) = false; setFact(1, 1, 0, true) = throws IllegalArgumentException
            setFact(1, 0, 1, true) = throws IllegalArgumentException; setFact(0, 1, 0, true) = throws IllegalArgumentException
            setDomain(3) = 1; setFact(1, 2, 2, true) = false; setFact(1, 3, 0, true) = throws IllegalArgumentException
            setFact(1, 0, 3, true) = throws IllegalArgumentException; setFact(0, 3, 0, true) = throws IllegalArgumentException
            == promise 27: both exceptions apply, and the one that is listed first is thrown
            setFact(0, 3, 3, true) = throws IndexOutOfBoundsException
            read no x:p(x);q(x,x) -> 3 0
            setFact(2, 2, 0, true) = throws IndexOutOfBoundsException; setFact(-1, 0, 2, true) = throws IndexOutOfBoundsException
            setFact(2, -1, -1, false) = throws IndexOutOfBoundsException
            """;

    private static final String TRUTH = """
            == Terms: an atom is true if what it says of the values of its variables is a fact
            # the order of the arguments, as the atom has them
            read every x:p(x);some y:q(y);r(y,x) -> 5 0
            setFact(0, 0, 0, true) = false; setFact(1, 1, 0, true) = false; truth(0) = false
            setFact(2, 0, 1, true) = false; truth(0) = false; truth(1) = false
            setFact(2, 1, 0, true) = false; truth(0) = true; truth(1) = true
            read some x:p(x);r(x,x) -> 3 0
            setFact(0, 1, 0, true) = false; setFact(1, 0, 1, true) = false; setFact(1, 1, 0, true) = false; truth(0) = false
            setFact(1, 1, 1, true) = false; truth(0) = true
            == Terms: a negation is true if what is in its hole is not true
            read not;some x:p(x);p(x) -> 4 0
            truth(0) = true; truth(1) = false; setFact(0, 1, 0, true) = false; truth(0) = false; truth(1) = false
            read not;not;some x:p(x);p(x) -> 5 0
            truth(0) = false; setFact(0, 1, 0, true) = false; truth(0) = true
            == promise 28: Throws IndexOutOfBoundsException if there is no such reading
            truth(0) = throws IndexOutOfBoundsException
            read every x:p(x);some y:q(y);r(x,y) -> 5 0
            truth(0) = true; truth(1) = false; truth(2) = throws IndexOutOfBoundsException
            truth(-1) = throws IndexOutOfBoundsException; truth(2147483647) = throws IndexOutOfBoundsException
            truth(-2147483648) = throws IndexOutOfBoundsException
            constrain(2, 1, 0) = 1; truth(0) = false; truth(1) = throws IndexOutOfBoundsException
            constrain(0, 1, 0) = 0; truth(0) = throws IndexOutOfBoundsException; release() = 1; release() = 2; truth(0) = true
            read not;not;no u:p(u);no v:p(v);no w:p(w);no x:p(x);q(u) -> 11 0
            truth(719) = true; truth(720) = throws IndexOutOfBoundsException
            == promise 29: Counts the readings that are true in the model.
            read every x:p(x);some y:p(y);r(x,y) -> 5 0
            # one, none, both, and then there is no reading at all
            trueReadings() = 1; setFact(0, 0, 0, true) = false; trueReadings() = 0; setFact(1, 0, 0, true) = false
            trueReadings() = 2; constrain(0, 1, 0) = 0; trueReadings() = 0; release() = 2; trueReadings() = 2
            # no is true here, so those are false that have just one negation above all of them: 2 * 4 * 24 of 720
            read not;not;no u:p(u);no v:p(v);no w:p(w);no x:p(x);q(u) -> 11 0
            trueReadings() = 528
            == promise 29: Throws IllegalStateException if there is no sentence
            trueReadings() = throws IllegalStateException
            read q(x) -> -3 2
            trueReadings() = throws IllegalStateException
            == promise 30: Finds the first reading, from a given one on, whose truth differs from that of reading 0.
            # 0: x some y, 1: y every x; only the first is true
            read every x:p(x);some y:q(y);r(x,y) -> 5 0
            nextDifferent(0) = 1; nextDifferent(1) = 1; nextDifferent(2) = -1
            # reading 0 is not true, and the other one is
            read some x:p(x);every y:q(y);r(x,y) -> 5 0
            nextDifferent(0) = 1; nextDifferent(1) = 1; nextDifferent(2) = -1
            # it is compared with reading 0, not with the given one: not some, and some not
            read not;not;some x:p(x);p(x) -> 5 0
            orders = 0 1 2 3 4 / 0 2 3 1 4 / 1 0 2 3 4 / 1 2 3 0 4 / 2 3 0 1 4 / 2 3 1 0 4
            nextDifferent(0) = 1; nextDifferent(1) = 1; nextDifferent(2) = 3; nextDifferent(3) = 3; nextDifferent(4) = -1
            == promise 30: Returns the reading; -1 if there is none, or there are no readings.
            read no x:p(x);q(x) -> 3 0
            nextDifferent(0) = -1; nextDifferent(1) = -1; nextDifferent(2147483647) = -1
            constrain(0, 0, 0) = 0; nextDifferent(0) = -1; nextDifferent(1) = -1
            read every x:p(x,y);some y:p(y,x);r(x) -> 5 0
            nextDifferent(0) = -1; nextDifferent(2147483647) = -1
            == promise 30: Throws IllegalStateException if there is no sentence
            nextDifferent(0) = throws IllegalStateException; nextDifferent(2147483647) = throws IllegalStateException
            read q(x) -> -3 2
            nextDifferent(0) = throws IllegalStateException
            == promise 30: Throws IndexOutOfBoundsException if from is negative
            read every x:p(x);some y:q(y);r(x,y) -> 5 0
            nextDifferent(-1) = throws IndexOutOfBoundsException
            nextDifferent(-2147483648) = throws IndexOutOfBoundsException; nextDifferent(0) = 1
            # also without readings
            constrain(0, 1, 0) = 0; nextDifferent(-1) = throws IndexOutOfBoundsException; nextDifferent(0) = -1
            == promise 30: both exceptions apply, and the one that is listed first is thrown
            nextDifferent(-1) = throws IllegalStateException; nextDifferent(-2147483648) = throws IllegalStateException
            """;

    private static final String FINGERPRINT = """
            == promise 31: the number of fragments, the number of readings (0 if there is no sentence)
            # 37 * 31 * 31
            fingerprint() = 35557; setDomain(3) = 2; fingerprint() = 35557
            read q(x) -> -3 2
            fingerprint() = 35557
            == promise 31: a sentence without readings
            # (37 * 31 + 5) * 31 + 0
            read every x:p(x,y);some y:p(y,x);r(x) -> 5 0
            fingerprint() = 35712
            """;

    private static final String THREE = "no u:p(u);some v:p(v);every w:p(w);";
    private static final int[][] NO_CONSTRAINTS = {};

    /** With constraints that leave just so many readings. */
    private static final String PAIRS = "some u:r(u,v);every v:p(v);some w:r(w,x);every x:p(x);not;not;q(u,w)";
    private static final int[][] LEAVE_49 = {{6, 1, 8}, {9, 0, 4}, {8, 0, 1}};
    private static final int[][] LEAVE_50 = {{0, 1, 7}, {2, 1, 6}};
    private static final int[][] LEAVE_51 = {{6, 1, 3}, {4, 1, 8}};

    public static void main(String[] args) {
        int wrong = Script.run("domain", DOMAIN) + Script.run("predicates", PREDICATES)
                + Script.run("truth", TRUTH) + Script.run("fingerprint", FINGERPRINT);
        wrong += countFacts() + separateFacts();
        wrong += addUp("no x:p(x);q(x)", NO_CONSTRAINTS, 1) + addUp(PAIRS, LEAVE_49, 49) + addUp(PAIRS, LEAVE_50, 50);
        wrong += addUp(PAIRS, LEAVE_51, 51) + addUp(THREE + "not;q(v,w)", NO_CONSTRAINTS, 24);
        wrong += addUp(THREE + "not;not;q(v,w)", NO_CONSTRAINTS, 120);
        wrong += addUp("every u:p(u);some v:p(v);not;every w:p(w);some x:p(x);not;r(u,v)", NO_CONSTRAINTS, 720);
        Script.exit(wrong);
    }

    private static ScopeLister read(String text) {
        ScopeLister lister = new ScopeLister();
        text.chars().forEach(lister::type);
        lister.readSentence();
        return lister;
    }

    private static int check(boolean isRight, String what) {
        if (!isRight) {
            System.out.println("not as due: " + what);
        }
        return isRight ? 0 : 1;
    }

    /** "every is true if a = b; some if b > 0; no if b = 0; most if 2 * b > a": all a and b, in each domain. */
    private static int countFacts() {
        int wrong = 0;
        for (int n = 1; n <= 3; n++) {
            for (int a = 0; a <= n; a++) {
                for (int b = 0; b <= a; b++) {
                    String where = " with n = " + n + ", a = " + a + ", b = " + b;
                    wrong += check(isTrue("every", n, a, b) == (a == b), "every" + where);
                    wrong += check(isTrue("some", n, a, b) == b > 0, "some" + where);
                    wrong += check(isTrue("no", n, a, b) == (b == 0), "no" + where);
                    wrong += check(isTrue("most", n, a, b) == 2 * b > a, "most" + where);
                }
            }
        }
        return wrong;
    }

    /** The last a elements are p; q are b of them, and all others, which do not count. */
    private static boolean isTrue(String word, int n, int a, int b) {
        ScopeLister lister = read(word + " x:p(x);q(x)");
        lister.setDomain(n);
        for (int d = 0; d < n; d++) {
            lister.setFact(0, d, 0, d >= n - a);
            lister.setFact(1, d, 0, d < n - a + b);
        }
        return lister.truth(0);
    }

    /** "For each predicate and each element (each pair of elements, in order) it is a fact or not; initially nothing". */
    private static int separateFacts() {
        int wrong = 0;
        for (int fact = -1; fact < 45; fact++) {
            ScopeLister lister = read("no u:a(u,u);no v:b(v,v);no w:c(w,w);no x:d(x,x);e(u,v)");
            lister.setDomain(3);
            if (fact >= 0) {
                lister.setFact(fact / 9, fact / 3 % 3, fact % 3, true);
            }
            for (int k = 0; k < 45; k++) {
                boolean isFact = lister.setFact(k / 9, k / 3 % 3, k % 3, false);
                wrong += check(isFact == (k == fact), "fact " + k + " after fact " + fact);
            }
        }
        return wrong;
    }

    private static ScopeLister prepare(String text, int[][] constraints) {
        ScopeLister lister = read(text);
        for (int[] c : constraints) {
            lister.constrain(c[0], c[1], c[2]);
        }
        lister.setFact(0, 1, 0, true);
        lister.setFact(1, 1, lister.arity(1) - 1, true);
        return lister;
    }

    /** "for each of the first 50 readings", "in long arithmetic with overflow": the sum, by the other calls. */
    private static int addUp(String text, int[][] constraints, int readings) {
        ScopeLister first = prepare(text, constraints);
        int fragments = first.fragments();
        BigInteger due = next(next(BigInteger.valueOf(37), fragments), first.readings());
        for (int reading = 0; reading < Math.min(50, readings); reading++) {
            // each reading has its own object, because of the limit of 512 calls
            ScopeLister lister = prepare(text, constraints);
            for (int k = 0; k < fragments; k++) {
                due = next(due, lister.place(reading, k));
            }
            due = next(due, lister.classOf(reading));
            due = next(due, lister.isWeak(reading) ? 1 : 0);
            due = next(due, lister.truth(reading) ? 1 : 0);
        }
        return check(first.readings() == readings, text + " has " + first.readings() + " readings")
                + check(first.fingerprint() == due.longValue(), "the fingerprint of " + text);
    }

    private static BigInteger next(BigInteger print, int number) {
        return print.multiply(BigInteger.valueOf(31)).add(BigInteger.valueOf(number));
    }
}
