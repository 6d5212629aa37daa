/** The boundary cases of promises 19 to 23, and of swaps and entailment under "Terms". */
public final class MeaningBoundaryTest {
    private static final String SWAPS = """
            == Terms: Let q and r be quantifiers such that, in a reading, r is in hole 1 of q.
            # hole 0 is another one
            read every x:of(x,y);every y:co(y);saw(x) -> 5 0
            orders = 0 2 3 1 4 / 2 3 0 1 4
            entails(0, 1) = false; entails(1, 0) = false; classes() = 2
            # a negation between them
            read some x:a(x);not;some y:b(y);c(x,y) -> 6 0
            orders = 0 1 2 3 4 5 / 0 1 3 4 2 5 / 2 0 1 3 4 5 / 2 3 4 0 1 5 / 3 4 0 1 2 5 / 3 4 2 0 1 5
            classOf(0) = 0; classOf(1) = 1; classOf(2) = 2; classOf(3) = 2; classOf(4) = 1; classOf(5) = 5; classes() = 4
            entails(0, 5) = false; entails(5, 0) = false; entails(0, 1) = false; entails(2, 0) = false
            == Terms: what was in hole 1 of r in hole 1 of q, and everything else as it was
            # what is in hole 0 goes with its quantifier
            read some x:a(x,y);some y:b(y);some z:c(z);d(x,z) -> 7 0
            orders = 0 2 3 1 4 5 6 / 2 3 0 1 4 5 6 / 2 3 4 5 0 1 6 / 4 5 0 2 3 1 6 / 4 5 2 3 0 1 6
            classOf(0) = 0; classOf(1) = 1; classOf(2) = 1; classOf(3) = 0; classOf(4) = 1; classes() = 2
            entails(0, 3) = true; entails(3, 0) = true; entails(1, 4) = true; entails(4, 1) = true; entails(0, 1) = false
            == Terms: It can be a reading or not.
            # the restriction of y has to stay below x
            read some x:p(x);some y:q(y,x);r(y) -> 5 0
            orders = 0 1 2 3 4 / 2 0 1 3 4
            entails(0, 1) = false; entails(1, 0) = false; classes() = 2; strongest() = 2
            # a constraint
            read some x:p(x);some y:q(y);r(x,y) -> 5 0
            classes() = 1; entails(0, 1) = true; constrain(0, 1, 2) = 1; classes() = 1; isWeak(0) = false
            entails(0, 0) = true; entails(0, 1) = throws IndexOutOfBoundsException
            """;

    private static final String STEPS = """
            == Terms: and either q and r are both every, or both are some
            read every x:p(x);every y:q(y);r(x,y) -> 5 0
            entails(0, 1) = true; entails(1, 0) = true
            read some x:p(x);some y:q(y);r(x,y) -> 5 0
            entails(0, 1) = true; entails(1, 0) = true
            read no x:p(x);no y:q(y);r(x,y) -> 5 0
            entails(0, 1) = false; entails(1, 0) = false
            read most x:p(x);most y:q(y);r(x,y) -> 5 0
            entails(0, 1) = false; entails(1, 0) = false
            # the polarity plays no part in it
            read not;every x:p(x);every y:q(y);r(x,y) -> 6 0
            entails(0, 1) = true; entails(1, 0) = true; classOf(1) = 0
            read not;some x:p(x);some y:q(y);r(x,y) -> 6 0
            entails(0, 1) = true; entails(1, 0) = true; classOf(1) = 0
            == Terms: one is every and the other one is some, and the place of q in i has the polarity 1 and q is some
            read every x:p(x);some y:q(y);r(x,y) -> 5 0
            entails(1, 0) = true; entails(0, 1) = false
            read some x:p(x);every y:q(y);r(x,y) -> 5 0
            entails(0, 1) = true; entails(1, 0) = false
            == Terms: two negations, and the scope of most, leave the polarity 1
            # not not every some, and not not some every
            read not;not;every x:p(x);some y:q(y);r(x,y) -> 7 0
            place(0, 2) = 2; place(1, 2) = 4; entails(1, 0) = true; entails(0, 1) = false
            read most z:a(z);every x:p(x);some y:q(y);r(x,y) -> 7 0
            place(0, 2) = 2; place(1, 2) = 4; entails(1, 0) = true; entails(0, 1) = false
            == Terms: or it has the polarity -1 and q is every
            # not every some, and not some every
            read not;every x:p(x);some y:q(y);r(x,y) -> 6 0
            place(0, 1) = 1; place(1, 1) = 3; entails(0, 1) = true; entails(1, 0) = false
            read no z:a(z);every x:p(x);some y:q(y);r(x,y) -> 7 0
            place(0, 2) = 2; place(1, 2) = 4; entails(0, 1) = true; entails(1, 0) = false
            read not;most z:a(z);every x:p(x);some y:q(y);r(x,y) -> 8 0
            place(0, 1) = 1; place(0, 3) = 3; place(1, 3) = 5; entails(0, 1) = true; entails(1, 0) = false
            == Terms: one is every and the other one is some
            read no x:p(x);every y:q(y);r(x,y) -> 5 0
            entails(0, 1) = false; entails(1, 0) = false
            read some x:p(x);no y:q(y);r(x,y) -> 5 0
            entails(0, 1) = false; entails(1, 0) = false
            read most x:p(x);every y:q(y);r(x,y) -> 5 0
            entails(0, 1) = false; entails(1, 0) = false
            read some x:p(x);most y:q(y);r(x,y) -> 5 0
            entails(0, 1) = false; entails(1, 0) = false
            read no x:p(x);most y:q(y);r(x,y) -> 5 0
            entails(0, 1) = false; entails(1, 0) = false
            == Terms: Reading i entails reading j if i = j
            read no x:p(x);no y:q(y);r(x,y) -> 5 0
            entails(0, 0) = true; entails(1, 1) = true
            read no x:p(x);q(x) -> 3 0
            entails(0, 0) = true
            == Terms: or there is a sequence of steps from i to j
            read some x:a(x);every y:b(y);every z:c(z);d(x,y) -> 7 0
            # 0: x y z, 1: x z y, 2: y x z, 3: y z x, 4: z x y, 5: z y x
            entails(0, 2) = true; entails(0, 3) = true; entails(0, 4) = true; entails(0, 5) = true; entails(2, 5) = true
            entails(4, 3) = true; entails(2, 4) = false; entails(4, 2) = false; entails(5, 0) = false; entails(3, 2) = false
            == Terms: the class of a reading is the least number of a reading that is equivalent to it
            read some x:a(x);every y:b(y);every z:c(z);d(x,y) -> 7 0
            classOf(0) = 0; classOf(1) = 0; classOf(2) = 2; classOf(3) = 3; classOf(4) = 4; classOf(5) = 3
            == Terms: A reading is weak if it is entailed by a reading that it does not entail.
            # equivalent readings do not make one another weak; all that are equivalent to a weak one are weak
            read some x:a(x);every y:b(y);every z:c(z);d(x,y) -> 7 0
            isWeak(0) = false; isWeak(1) = false; isWeak(2) = true; isWeak(3) = true; isWeak(4) = true; isWeak(5) = true
            read every x:p(x);every y:q(y);r(x,y) -> 5 0
            isWeak(0) = false; isWeak(1) = false
            # the one that entails it comes behind it; without that one, it is not weak
            read every x:p(x);some y:q(y);r(x,y) -> 5 0
            isWeak(0) = true; isWeak(1) = false; constrain(0, 1, 2) = 1; isWeak(0) = false; release() = 2; isWeak(0) = true
            """;

    private static final String PROMISES = """
            == promise 19: Throws IndexOutOfBoundsException if there is no such reading
            entails(0, 0) = throws IndexOutOfBoundsException
            read every x:p(x);some y:q(y);r(x,y) -> 5 0
            entails(1, 1) = true; entails(2, 0) = throws IndexOutOfBoundsException
            entails(0, 2) = throws IndexOutOfBoundsException; entails(-1, 0) = throws IndexOutOfBoundsException
            entails(0, -1) = throws IndexOutOfBoundsException; entails(2, 2) = throws IndexOutOfBoundsException
            entails(-1, -1) = throws IndexOutOfBoundsException; entails(2147483647, 0) = throws IndexOutOfBoundsException
            entails(0, 2147483647) = throws IndexOutOfBoundsException
            entails(-2147483648, 0) = throws IndexOutOfBoundsException
            entails(0, -2147483648) = throws IndexOutOfBoundsException
            constrain(0, 1, 0) = 0; entails(0, 0) = throws IndexOutOfBoundsException
            read not;not;no u:p(u);no v:p(v);no w:p(w);no x:p(x);q(u) -> 11 0
            entails(719, 719) = true; entails(719, 0) = false; entails(720, 719) = throws IndexOutOfBoundsException
            entails(719, 720) = throws IndexOutOfBoundsException
            == promise 20: Throws IndexOutOfBoundsException if there is no such reading
            classOf(0) = throws IndexOutOfBoundsException
            read every x:p(x);every y:q(y);r(x,y) -> 5 0
            classOf(1) = 0; classOf(2) = throws IndexOutOfBoundsException; classOf(-1) = throws IndexOutOfBoundsException
            classOf(2147483647) = throws IndexOutOfBoundsException; classOf(-2147483648) = throws IndexOutOfBoundsException
            constrain(2, 1, 0) = 1; classOf(0) = 0; classOf(1) = throws IndexOutOfBoundsException
            constrain(0, 1, 0) = 0; classOf(0) = throws IndexOutOfBoundsException
            read not;not;no u:p(u);no v:p(v);no w:p(w);no x:p(x);q(u) -> 11 0
            classOf(719) = 719; classOf(720) = throws IndexOutOfBoundsException
            == promise 21: Counts the classes of readings.
            read no x:p(x);q(x) -> 3 0
            classes() = 1; constrain(0, 0, 0) = 0; classes() = 0; release() = 1; classes() = 1
            read every u:p(u);every v:p(v);every w:p(w);every x:p(x);q(u) -> 9 0
            readings() = 24; classes() = 1
            read not;not;no u:p(u);no v:p(v);no w:p(w);no x:p(x);q(u) -> 11 0
            classes() = 720
            read every x:p(x,y);some y:p(y,x);r(x) -> 5 0
            classes() = 0
            == promise 21: Throws IllegalStateException if there is no sentence
            classes() = throws IllegalStateException
            read q(x) -> -3 2
            classes() = throws IllegalStateException
            == promise 22: Throws IndexOutOfBoundsException if there is no such reading
            isWeak(0) = throws IndexOutOfBoundsException
            read some x:p(x);every y:q(y);r(x,y) -> 5 0
            isWeak(0) = false; isWeak(1) = true; isWeak(2) = throws IndexOutOfBoundsException
            isWeak(-1) = throws IndexOutOfBoundsException; isWeak(2147483647) = throws IndexOutOfBoundsException
            isWeak(-2147483648) = throws IndexOutOfBoundsException
            # alone, the weak reading is not weak
            constrain(2, 1, 0) = 1; isWeak(0) = false; isWeak(1) = throws IndexOutOfBoundsException
            constrain(0, 1, 0) = 0; isWeak(0) = throws IndexOutOfBoundsException
            release() = 1; release() = 2; isWeak(0) = false; isWeak(1) = true
            == promise 23: Counts the classes of readings that are not weak.
            read no x:p(x);q(x) -> 3 0
            strongest() = 1; constrain(0, 0, 0) = 0; strongest() = 0; release() = 1; strongest() = 1
            read some x:p(x);every y:q(y);r(x,y) -> 5 0
            strongest() = 1; classes() = 2
            # a class of two readings is one class
            read some x:p(x);some y:q(y);every z:p(z);r(x,y) -> 7 0
            strongest() = 1; classes() = 4; readings() = 6
            read not;not;no u:p(u);no v:p(v);no w:p(w);no x:p(x);q(u) -> 11 0
            strongest() = 720
            read every x:p(x,y);some y:p(y,x);r(x) -> 5 0
            strongest() = 0
            == promise 23: Throws IllegalStateException if there is no sentence
            strongest() = throws IllegalStateException
            read q(x) -> -3 2
            strongest() = throws IllegalStateException
            """;

    public static void main(String[] args) {
        Script.exit(Script.run("swaps", SWAPS) + Script.run("steps", STEPS) + Script.run("promises", PROMISES));
    }
}
