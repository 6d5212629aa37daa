/** The boundary cases of promises 11 to 18, and of readings and polarity under "Terms". */
public final class ReadingsBoundaryTest {
    private static final String READINGS = """
            == Terms: for each edge from a hole to a fragment g, g is the fragment in this hole or below it
            read some x:a(x);not;some y:b(y);c(x,y) -> 6 0
            orders = 0 1 2 3 4 5 / 0 1 3 4 2 5 / 2 0 1 3 4 5 / 2 3 4 0 1 5 / 3 4 0 1 2 5 / 3 4 2 0 1 5
            # y in the hole itself, and below the negation that is in it
            constrain(0, 1, 3) = 3
            orders = 0 1 2 3 4 5 / 0 1 3 4 2 5 / 2 0 1 3 4 5
            # a constraint from hole 0, in which there is no place for it
            release() = 6; constrain(0, 0, 3) = 0; release() = 6; constrain(0, 0, 5) = 0
            == Terms: begins with the root, followed by what is in its hole 0 in this order, and then by ... hole 1
            read every x:of(x,y);not;some y:co(y);saw(x) -> 6 0
            orders = 0 3 4 1 2 5 / 2 0 3 4 1 5 / 2 3 4 0 1 5 / 3 4 0 1 2 5 / 3 4 2 0 1 5
            plug(0, 0, 0) = 3; plug(0, 3, 0) = 4; plug(0, 3, 1) = 1; plug(0, 0, 1) = 2; plug(0, 2, 0) = 5
            == Terms: The readings are numbered from 0, sorted lexicographically by their orders.
            read not;not;no x:p(x);q(x) -> 5 0
            orders = 0 1 2 3 4 / 0 2 3 1 4 / 1 0 2 3 4 / 1 2 3 0 4 / 2 3 0 1 4 / 2 3 1 0 4
            # the numbers move up when the first ones are gone
            constrain(2, 1, 0) = 3
            orders = 1 2 3 0 4 / 2 3 0 1 4 / 2 3 1 0 4
            == Terms: There can be none.
            read every x:p(x,y);some y:p(y,x);r(x) -> 5 0
            readings() = 0; errorKind() = 0; fragments() = 5; kindOf(4) = 0; hasEdge(0, 1, 3) = true
            # u and w are in each other's restrictions; v alone has a place, and the search ends without holes
            read no u:r(u,w);no v:p(v);no w:r(w,u);q(v) -> 7 0
            readings() = 0; countBelow(2, 6) = 0; constrain(2, 1, 6) = 0; release() = 0
            read every u:r(u,w);every v:p(v);every w:r(w,u);every x:p(x);s(x,v) -> 9 0
            readings() = 0; classes() = 0; strongest() = 0; trueReadings() = 0
            == promise 11: Counts the readings.
            read no x:p(x);q(x) -> 3 0
            readings() = 1; constrain(0, 0, 0) = 0; readings() = 0; release() = 1; readings() = 1
            read not;not;no u:p(u);no v:p(v);no w:p(w);no x:p(x);q(u) -> 11 0
            readings() = 720
            == promise 11: Throws IllegalStateException if there is no sentence
            readings() = throws IllegalStateException
            read no x:p(x) -> -10 1
            readings() = throws IllegalStateException
            read q(x) -> -3 2
            readings() = throws IllegalStateException
            """;

    private static final String PLACES = """
            == promise 12: no such reading
            place(0, 0) = throws IndexOutOfBoundsException
            read every x:p(x);some y:q(y);r(x,y) -> 5 0
            place(0, 0) = 0; place(1, 0) = 2; place(2, 0) = throws IndexOutOfBoundsException
            place(-1, 0) = throws IndexOutOfBoundsException; place(2147483647, 0) = throws IndexOutOfBoundsException
            place(-2147483648, 0) = throws IndexOutOfBoundsException; place(2, 5) = throws IndexOutOfBoundsException
            # one reading less, and none
            constrain(0, 1, 2) = 1; place(0, 0) = 0; place(1, 0) = throws IndexOutOfBoundsException
            constrain(0, 1, 0) = 0; place(0, 0) = throws IndexOutOfBoundsException
            read not;not;no u:p(u);no v:p(v);no w:p(w);no x:p(x);q(u) -> 11 0
            place(719, 0) = 8; place(719, 10) = 10; place(720, 0) = throws IndexOutOfBoundsException
            == promise 12: or no such place
            read no x:p(x);q(x) -> 3 0
            place(0, 0) = 0; place(0, 1) = 1; place(0, 2) = 2; place(0, 3) = throws IndexOutOfBoundsException
            place(0, -1) = throws IndexOutOfBoundsException; place(0, 2147483647) = throws IndexOutOfBoundsException
            place(0, -2147483648) = throws IndexOutOfBoundsException
            read not;not;no u:p(u);no v:p(v);no w:p(w);no x:p(x);q(u) -> 11 0
            place(0, 10) = 10; place(0, 11) = throws IndexOutOfBoundsException
            read no x:p(x);q(x) -> 3 0
            place(0, 3) = throws IndexOutOfBoundsException; place(0, 10) = throws IndexOutOfBoundsException
            == promise 13: Returns the fragment that is in a hole in a reading.
            read not;no x:p(x);q(x) -> 4 0
            plug(0, 0, 0) = 1; plug(0, 1, 0) = 2; plug(0, 1, 1) = 3
            plug(1, 1, 0) = 2; plug(1, 1, 1) = 0; plug(1, 0, 0) = 3
            == promise 13: no such reading
            plug(0, 0, 0) = throws IndexOutOfBoundsException
            read not;no x:p(x);q(x) -> 4 0
            plug(1, 0, 0) = 3; plug(2, 0, 0) = throws IndexOutOfBoundsException
            plug(-1, 0, 0) = throws IndexOutOfBoundsException; plug(2147483647, 0, 0) = throws IndexOutOfBoundsException
            plug(-2147483648, 0, 0) = throws IndexOutOfBoundsException
            constrain(0, 0, 0) = 0; plug(0, 0, 0) = throws IndexOutOfBoundsException
            == promise 13: no such fragment
            read not;no x:p(x);q(x) -> 4 0
            plug(0, 4, 0) = throws IndexOutOfBoundsException; plug(0, -1, 0) = throws IndexOutOfBoundsException
            plug(0, 2147483647, 0) = throws IndexOutOfBoundsException
            plug(0, -2147483648, 0) = throws IndexOutOfBoundsException
            == promise 13: or no such hole
            read not;no x:p(x);q(x) -> 4 0
            plug(0, 0, 1) = throws IndexOutOfBoundsException; plug(0, 0, -1) = throws IndexOutOfBoundsException
            plug(0, 1, 2) = throws IndexOutOfBoundsException; plug(0, 1, -1) = throws IndexOutOfBoundsException
            plug(0, 2, 0) = throws IndexOutOfBoundsException; plug(0, 3, 0) = throws IndexOutOfBoundsException
            plug(0, 1, 2147483647) = throws IndexOutOfBoundsException
            plug(0, 1, -2147483648) = throws IndexOutOfBoundsException
            == promise 14: Returns the fragment; -1 for the root.
            read not;no x:p(x);q(x) -> 4 0
            above(0, 0) = -1; above(0, 1) = 0; above(0, 2) = 1; above(0, 3) = 1
            above(1, 1) = -1; above(1, 0) = 1; above(1, 2) = 1; above(1, 3) = 0
            == promise 14: no such reading
            above(0, 0) = throws IndexOutOfBoundsException
            read not;no x:p(x);q(x) -> 4 0
            above(1, 0) = 1; above(2, 0) = throws IndexOutOfBoundsException; above(-1, 0) = throws IndexOutOfBoundsException
            above(2147483647, 0) = throws IndexOutOfBoundsException; above(-2147483648, 0) = throws IndexOutOfBoundsException
            constrain(0, 0, 0) = 0; above(0, 0) = throws IndexOutOfBoundsException
            == promise 14: or no such fragment
            read not;no x:p(x);q(x) -> 4 0
            above(0, 3) = 1; above(0, 4) = throws IndexOutOfBoundsException; above(0, -1) = throws IndexOutOfBoundsException
            above(0, 2147483647) = throws IndexOutOfBoundsException; above(0, -2147483648) = throws IndexOutOfBoundsException
            """;

    private static final String POLARITY = """
            == Terms: The root of a reading has the polarity 1.
            read not;no x:p(x);q(x) -> 4 0
            polarity(0, 0) = 1; polarity(1, 1) = 1
            == Terms: What is in hole 1 of every or some, or in hole 0 of some, has the polarity of this quantifier
            read every x:p(x);q(x) -> 3 0
            polarity(0, 2) = 1
            read some x:p(x);q(x) -> 3 0
            polarity(0, 1) = 1; polarity(0, 2) = 1
            read not;every x:p(x);q(x) -> 4 0
            polarity(0, 1) = -1; polarity(0, 3) = -1
            read not;some x:p(x);q(x) -> 4 0
            polarity(0, 1) = -1; polarity(0, 2) = -1; polarity(0, 3) = -1
            == Terms: what is in hole 0 of every, in a hole of no, or in the hole of a negation, has minus its polarity
            read every x:p(x);q(x) -> 3 0
            polarity(0, 1) = -1
            read no x:p(x);q(x) -> 3 0
            polarity(0, 1) = -1; polarity(0, 2) = -1
            # minus -1 is 1
            read not;no x:p(x);q(x) -> 4 0
            polarity(0, 1) = -1; polarity(0, 2) = 1; polarity(0, 3) = 1
            polarity(1, 2) = -1; polarity(1, 0) = -1; polarity(1, 3) = 1
            read not;every x:p(x);q(x) -> 4 0
            polarity(0, 2) = 1
            == Terms: what is in hole 1 of most has its polarity, and what is in hole 0 of most has the polarity 0
            read most x:p(x);q(x) -> 3 0
            polarity(0, 0) = 1; polarity(0, 1) = 0; polarity(0, 2) = 1
            read not;most x:p(x);q(x) -> 4 0
            polarity(0, 1) = -1; polarity(0, 2) = 0; polarity(0, 3) = -1
            # minus 0 is 0, and 0 goes down through every hole
            read most x:of(x,y);no y:co(y);saw(x) -> 5 0
            place(0, 1) = 2; polarity(0, 2) = 0; polarity(0, 3) = 0; polarity(0, 1) = 0; polarity(0, 4) = 1
            read most x:of(x,y);every y:co(y);saw(x) -> 5 0
            place(0, 1) = 2; polarity(0, 2) = 0; polarity(0, 3) = 0; polarity(0, 1) = 0
            read most x:of(x,y);most y:co(y);saw(x) -> 5 0
            place(0, 1) = 2; polarity(0, 2) = 0; polarity(0, 3) = 0; polarity(0, 1) = 0
            == promise 15: no such reading
            polarity(0, 0) = throws IndexOutOfBoundsException
            read not;no x:p(x);q(x) -> 4 0
            polarity(1, 0) = -1; polarity(2, 0) = throws IndexOutOfBoundsException
            polarity(-1, 0) = throws IndexOutOfBoundsException; polarity(2147483647, 0) = throws IndexOutOfBoundsException
            polarity(-2147483648, 0) = throws IndexOutOfBoundsException
            constrain(0, 0, 0) = 0; polarity(0, 0) = throws IndexOutOfBoundsException
            == promise 15: or no such fragment
            read not;no x:p(x);q(x) -> 4 0
            polarity(0, 4) = throws IndexOutOfBoundsException; polarity(0, -1) = throws IndexOutOfBoundsException
            polarity(0, 2147483647) = throws IndexOutOfBoundsException
            polarity(0, -2147483648) = throws IndexOutOfBoundsException
            """;

    private static final String BELOW = """
            == Terms: A fragment is below all fragments in whose holes it is, directly or in a fragment that is below.
            read not;not;no x:p(x);q(x) -> 5 0
            # 0 1 2 3 4 / 0 2 3 1 4 / 1 0 2 3 4 / 1 2 3 0 4 / 2 3 0 1 4 / 2 3 1 0 4
            countBelow(0, 1) = 3; countBelow(1, 0) = 3; countBelow(0, 2) = 3; countBelow(2, 3) = 6; countBelow(0, 3) = 3
            countBelow(0, 4) = 6; nextBelow(0, 0, 1) = 0; nextBelow(1, 0, 1) = 1; nextBelow(2, 0, 1) = 4
            == promise 16: Returns the number of readings; 0 if both are the same.
            read no x:p(x);q(x) -> 3 0
            countBelow(0, 0) = 0; countBelow(1, 1) = 0; countBelow(2, 2) = 0; countBelow(0, 1) = 1; countBelow(0, 2) = 1
            countBelow(1, 0) = 0; countBelow(2, 0) = 0; countBelow(1, 2) = 0; countBelow(2, 1) = 0
            # without readings
            constrain(0, 0, 0) = 0; countBelow(0, 1) = 0; countBelow(0, 0) = 0
            read not;not;no u:p(u);no v:p(v);no w:p(w);no x:p(x);q(u) -> 11 0
            countBelow(0, 10) = 720; countBelow(0, 1) = 360; countBelow(10, 0) = 0; countBelow(10, 10) = 0
            == promise 16: Throws IndexOutOfBoundsException if there is no such fragment
            countBelow(0, 0) = throws IndexOutOfBoundsException
            read no x:p(x);q(x) -> 3 0
            countBelow(3, 0) = throws IndexOutOfBoundsException; countBelow(0, 3) = throws IndexOutOfBoundsException
            countBelow(-1, 0) = throws IndexOutOfBoundsException; countBelow(0, -1) = throws IndexOutOfBoundsException
            # also if both are the same, and if there are no readings
            countBelow(3, 3) = throws IndexOutOfBoundsException; countBelow(-1, -1) = throws IndexOutOfBoundsException
            countBelow(2147483647, 0) = throws IndexOutOfBoundsException
            countBelow(0, -2147483648) = throws IndexOutOfBoundsException
            constrain(0, 0, 0) = 0; countBelow(3, 0) = throws IndexOutOfBoundsException
            countBelow(0, 3) = throws IndexOutOfBoundsException
            == promise 17: Finds the first reading, from a given one on
            read every x:p(x);some y:q(y);r(x,y) -> 5 0
            nextBelow(0, 0, 2) = 0; nextBelow(1, 0, 2) = -1; nextBelow(0, 2, 0) = 1; nextBelow(1, 2, 0) = 1
            nextBelow(0, 0, 4) = 0; nextBelow(1, 0, 4) = 1
            == promise 17: Returns the reading; -1 if there is none.
            read every x:p(x);some y:q(y);r(x,y) -> 5 0
            nextBelow(0, 1, 2) = -1; nextBelow(0, 0, 0) = -1; nextBelow(2, 0, 4) = -1; nextBelow(3, 0, 4) = -1
            nextBelow(720, 0, 4) = -1; nextBelow(2147483647, 0, 4) = -1
            constrain(0, 0, 0) = 0; nextBelow(0, 0, 4) = -1
            read not;not;no u:p(u);no v:p(v);no w:p(w);no x:p(x);q(u) -> 11 0
            nextBelow(719, 0, 10) = 719; nextBelow(720, 0, 10) = -1; nextBelow(719, 0, 1) = -1; nextBelow(719, 1, 0) = 719
            == promise 17: Throws IndexOutOfBoundsException if there is no such fragment
            nextBelow(0, 0, 0) = throws IndexOutOfBoundsException
            read no x:p(x);q(x) -> 3 0
            nextBelow(0, 3, 0) = throws IndexOutOfBoundsException; nextBelow(0, 0, 3) = throws IndexOutOfBoundsException
            nextBelow(0, -1, 0) = throws IndexOutOfBoundsException; nextBelow(0, 0, -1) = throws IndexOutOfBoundsException
            # also if no reading would be looked at
            nextBelow(1, 3, 0) = throws IndexOutOfBoundsException; nextBelow(1, 0, 3) = throws IndexOutOfBoundsException
            nextBelow(0, 2147483647, 0) = throws IndexOutOfBoundsException
            nextBelow(0, 0, -2147483648) = throws IndexOutOfBoundsException
            == promise 17: or from is negative
            nextBelow(-1, 0, 0) = throws IndexOutOfBoundsException
            read no x:p(x);q(x) -> 3 0
            nextBelow(-1, 0, 1) = throws IndexOutOfBoundsException; nextBelow(-2147483648, 0, 1) = throws IndexOutOfBoundsException
            nextBelow(-1, 0, 0) = throws IndexOutOfBoundsException; nextBelow(0, 0, 1) = 0
            constrain(0, 0, 0) = 0; nextBelow(-1, 0, 1) = throws IndexOutOfBoundsException
            """;

    private static final String FORMULA = """
            == promise 18: The formula of a leaf is its atom, without changes
            read no x:no(x,x);not(x) -> 3 0
            formula 0 = no x(no(x,x),not(x))
            == promise 18: that of a negation is "not(", the formula of what is in its hole, ")"
            read not;no x:p(x);q(x) -> 4 0
            formula 0 = not(no x(p(x),q(x)))
            formula 1 = no x(p(x),not(q(x)))
            == promise 18: that of a quantifier is its word, a blank, its variable, "(", ..., ",", ..., ")"
            read every u:p(u);q(u) -> 3 0
            formula 0 = every u(p(u),q(u))
            read some v:p(v);q(v) -> 3 0
            formula 0 = some v(p(v),q(v))
            read no w:p(w);q(w) -> 3 0
            formula 0 = no w(p(w),q(w))
            read most z:p(z);q(z) -> 3 0
            formula 0 = most z(p(z),q(z))
            read every x:of(x,y);some y:co(y);saw(x) -> 5 0
            formula 0 = every x(some y(co(y),of(x,y)),saw(x))
            formula 1 = some y(co(y),every x(of(x,y),saw(x)))
            == promise 18: Returns its code; -1 if there are not so many characters.
            read no x:p(x);q(x) -> 3 0
            formulaChar(0, 0) = 110; formulaChar(0, 14) = 41; formulaChar(0, 15) = -1; formulaChar(0, 16) = -1
            formulaChar(0, 2147483647) = -1
            # the longest formula, and then the shortest again
            read every u:abcde(u,v);every v:abcde(v,v);every w:abcde(w,w);every x:abcde(x,x);not;not;abcde(u,x) -> 11 0
            formulaChar(0, 0) = 101; formulaChar(0, 98) = 41; formulaChar(0, 99) = 41; formulaChar(0, 100) = -1
            read no x:p(x);q(x) -> 3 0
            formulaChar(0, 14) = 41; formulaChar(0, 15) = -1; formulaChar(0, 99) = -1
            == promise 18: the longest formula
            read every u:abcde(u,v);every v:abcde(v,v);every w:abcde(w,w);every x:abcde(x,x);not;not;abcde(u,x) -> 11 0
            formula 0 = \
            every u(every v(abcde(v,v),abcde(u,v)),every w(abcde(w,w),every x(abcde(x,x),not(not(abcde(u,x))))))
            == promise 18: no such reading
            formulaChar(0, 0) = throws IndexOutOfBoundsException
            read no x:p(x);q(x) -> 3 0
            formulaChar(1, 0) = throws IndexOutOfBoundsException; formulaChar(-1, 0) = throws IndexOutOfBoundsException
            formulaChar(2147483647, 0) = throws IndexOutOfBoundsException
            formulaChar(-2147483648, 0) = throws IndexOutOfBoundsException
            # also where there would be no character
            formulaChar(1, 15) = throws IndexOutOfBoundsException
            constrain(0, 0, 0) = 0; formulaChar(0, 0) = throws IndexOutOfBoundsException
            == promise 18: or k is negative
            read no x:p(x);q(x) -> 3 0
            formulaChar(0, -1) = throws IndexOutOfBoundsException
            formulaChar(0, -2147483648) = throws IndexOutOfBoundsException
            """;

    private static final String[] SENTENCES = {
        "no x:p(x);q(x)", "every x:of(x,y);not;some y:co(y);saw(x)", "most x:a(x,y);every y:b(y,z);some z:c(z);d(x)",
    };

    public static void main(String[] args) {
        int wrong = Script.run("readings", READINGS) + Script.run("places", PLACES)
                + Script.run("polarity", POLARITY) + Script.run("below", BELOW) + Script.run("formula", FORMULA);
        for (String sentence : SENTENCES) {
            wrong += fillHoles(sentence);
        }
        Script.exit(wrong);
    }

    /** "A reading puts each fragment but one, the root, into a hole, such that each hole has exactly one fragment". */
    private static int fillHoles(String sentence) {
        ScopeLister lister = new ScopeLister();
        sentence.chars().forEach(lister::type);
        int fragments = lister.readSentence();
        int readings = lister.readings();
        int wrong = 0;
        for (int reading = 0; reading < readings; reading++) {
            int[] found = new int[fragments];
            for (int fragment = 0; fragment < fragments; fragment++) {
                int kind = lister.kindOf(fragment);
                for (int hole = 0; hole < (kind == 0 ? 0 : kind == 5 ? 1 : 2); hole++) {
                    int inside = lister.plug(reading, fragment, hole);
                    found[inside]++;
                    wrong += lister.above(reading, inside) == fragment ? 0 : 1;
                }
            }
            for (int fragment = 0; fragment < fragments; fragment++) {
                boolean isRoot = fragment == lister.place(reading, 0);
                wrong += found[fragment] == (isRoot ? 0 : 1) ? 0 : 1;
            }
        }
        if (wrong > 0) {
            System.out.println(sentence + ": a fragment is not in just one hole");
        }
        return wrong;
    }
}
