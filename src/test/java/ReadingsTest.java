/** Promises 11 to 18: the readings and what is where in them. */
public final class ReadingsTest {
    private static final String COUNTS = """
            readings() = throws IllegalStateException
            text some x:p(x);q(x)
            readSentence() = 3; readings() = 1
            orders = 0 1 2
            text some x:a(x);not;some y:b(y);c(x,y)
            readSentence() = 6; readings() = 6
            orders = 0 1 2 3 4 5 / 0 1 3 4 2 5 / 2 0 1 3 4 5 / 2 3 4 0 1 5 / 3 4 0 1 2 5 / 3 4 2 0 1 5
            # y is in the restriction of x, or above x
            text every x:of(x,y);not;some y:co(y);saw(x)
            readSentence() = 6; readings() = 5
            orders = 0 3 4 1 2 5 / 2 0 3 4 1 5 / 2 3 4 0 1 5 / 3 4 0 1 2 5 / 3 4 2 0 1 5
            # a chain: z for the restriction of y, y for that of x
            text most x:a(x,y);every y:b(y,z);some z:c(z);d(x)
            readSentence() = 7; readings() = 5
            orders = 0 2 4 5 3 1 6 / 0 4 5 2 3 1 6 / 2 4 5 3 0 1 6 / 4 5 0 2 3 1 6 / 4 5 2 3 0 1 6
            # the most that there can be, in every order of the six
            text no u:p(u);no v:p(v);not;no w:p(w);no x:p(x);not;q(u,v)
            readSentence() = 11; readings() = 720
            place(0, 0) = 0; place(0, 10) = 10; place(719, 0) = 9; place(719, 1) = 7; place(719, 2) = 8
            place(720, 0) = throws IndexOutOfBoundsException; place(119, 0) = 0; place(120, 0) = 2
            plug(719, 9, 0) = 7; plug(719, 0, 1) = 10; above(719, 10) = 0
            """;

    private static final String NO_READINGS = """
            text every x:p(x,y);some y:p(y,x);r(x)
            readSentence() = 5; readings() = 0; place(0, 0) = throws IndexOutOfBoundsException
            plug(0, 0, 0) = throws IndexOutOfBoundsException; above(0, 0) = throws IndexOutOfBoundsException
            polarity(0, 0) = throws IndexOutOfBoundsException; formulaChar(0, 0) = throws IndexOutOfBoundsException
            countBelow(0, 1) = 0; nextBelow(0, 0, 1) = -1
            entails(0, 0) = throws IndexOutOfBoundsException; classOf(0) = throws IndexOutOfBoundsException
            isWeak(0) = throws IndexOutOfBoundsException; classes() = 0; strongest() = 0
            truth(0) = throws IndexOutOfBoundsException; trueReadings() = 0; nextDifferent(0) = -1
            fingerprint() = 35712
            """;

    private static final String PLACES = """
            place(0, 0) = throws IndexOutOfBoundsException; plug(0, 0, 0) = throws IndexOutOfBoundsException
            above(0, 0) = throws IndexOutOfBoundsException
            text every x:of(x,y);not;some y:co(y);saw(x)
            readSentence() = 6
            place(0, 0) = 0; place(0, 1) = 3; place(0, 5) = 5; place(1, 1) = 0; place(4, 0) = 3
            place(0, 6) = throws IndexOutOfBoundsException; place(0, -1) = throws IndexOutOfBoundsException
            place(5, 0) = throws IndexOutOfBoundsException; place(-1, 0) = throws IndexOutOfBoundsException
            plug(0, 0, 0) = 3; plug(0, 0, 1) = 2; plug(0, 3, 0) = 4; plug(0, 3, 1) = 1; plug(0, 2, 0) = 5
            plug(2, 0, 0) = 1; plug(2, 0, 1) = 5; plug(2, 2, 0) = 3; plug(2, 3, 1) = 0
            plug(5, 0, 0) = throws IndexOutOfBoundsException; plug(-1, 0, 0) = throws IndexOutOfBoundsException
            plug(0, 6, 0) = throws IndexOutOfBoundsException; plug(0, -1, 0) = throws IndexOutOfBoundsException
            plug(0, 1, 0) = throws IndexOutOfBoundsException; plug(0, 2, 1) = throws IndexOutOfBoundsException
            plug(0, 0, 2) = throws IndexOutOfBoundsException; plug(0, 0, -1) = throws IndexOutOfBoundsException
            above(0, 0) = -1; above(0, 1) = 3; above(0, 2) = 0; above(0, 3) = 0; above(0, 4) = 3; above(0, 5) = 2
            above(4, 0) = 2; above(4, 2) = 3; above(4, 3) = -1
            above(5, 0) = throws IndexOutOfBoundsException; above(-1, 0) = throws IndexOutOfBoundsException
            above(0, 6) = throws IndexOutOfBoundsException; above(0, -1) = throws IndexOutOfBoundsException
            """;

    private static final String POLARITY = """
            polarity(0, 0) = throws IndexOutOfBoundsException
            text every x:of(x,y);not;some y:co(y);saw(x)
            readSentence() = 6
            # every x(some y(co(y),of(x,y)),not(saw(x)))
            polarity(0, 0) = 1; polarity(0, 3) = -1; polarity(0, 4) = -1; polarity(0, 1) = -1
            polarity(0, 2) = 1; polarity(0, 5) = -1
            # not(every x(some y(co(y),of(x,y)),saw(x)))
            polarity(1, 2) = 1; polarity(1, 0) = -1; polarity(1, 3) = 1; polarity(1, 1) = 1; polarity(1, 5) = -1
            polarity(5, 0) = throws IndexOutOfBoundsException; polarity(-1, 0) = throws IndexOutOfBoundsException
            polarity(0, 6) = throws IndexOutOfBoundsException; polarity(0, -1) = throws IndexOutOfBoundsException
            text most x:of(x,y);no y:co(y);saw(x)
            readSentence() = 5
            # most x(no y(co(y),of(x,y)),saw(x)): minus 0 is 0
            polarity(0, 0) = 1; polarity(0, 2) = 0; polarity(0, 3) = 0; polarity(0, 1) = 0; polarity(0, 4) = 1
            # no y(co(y),most x(of(x,y),saw(x)))
            polarity(1, 2) = 1; polarity(1, 3) = -1; polarity(1, 0) = -1; polarity(1, 1) = 0; polarity(1, 4) = -1
            text not;some x:p(x);not;q(x)
            readSentence() = 5; readings() = 6
            # not(some x(p(x),not(q(x))))
            polarity(0, 0) = 1; polarity(0, 1) = -1; polarity(0, 2) = -1; polarity(0, 3) = -1; polarity(0, 4) = 1
            """;

    private static final String BELOW = """
            countBelow(0, 0) = throws IndexOutOfBoundsException; nextBelow(0, 0, 0) = throws IndexOutOfBoundsException
            text every x:of(x,y);not;some y:co(y);saw(x)
            readSentence() = 6
            countBelow(0, 3) = 2; countBelow(3, 0) = 3; countBelow(2, 0) = 3; countBelow(0, 2) = 2
            countBelow(2, 3) = 2; countBelow(3, 2) = 2; countBelow(0, 1) = 5; countBelow(1, 0) = 0
            countBelow(0, 0) = 0; countBelow(5, 5) = 0; countBelow(3, 5) = 3; countBelow(2, 5) = 5
            countBelow(6, 0) = throws IndexOutOfBoundsException; countBelow(0, 6) = throws IndexOutOfBoundsException
            countBelow(-1, 0) = throws IndexOutOfBoundsException; countBelow(0, -1) = throws IndexOutOfBoundsException
            nextBelow(0, 0, 3) = 0; nextBelow(1, 0, 3) = 1; nextBelow(2, 0, 3) = -1
            nextBelow(0, 3, 0) = 2; nextBelow(3, 3, 0) = 3; nextBelow(4, 3, 0) = 4; nextBelow(5, 3, 0) = -1
            nextBelow(2147483647, 3, 0) = -1; nextBelow(0, 0, 0) = -1; nextBelow(0, 1, 0) = -1
            nextBelow(-1, 3, 0) = throws IndexOutOfBoundsException
            nextBelow(-2147483648, 3, 0) = throws IndexOutOfBoundsException
            nextBelow(0, 6, 0) = throws IndexOutOfBoundsException; nextBelow(0, 0, 6) = throws IndexOutOfBoundsException
            nextBelow(0, -1, 0) = throws IndexOutOfBoundsException; nextBelow(0, 0, -1) = throws IndexOutOfBoundsException
            constrain(3, 1, 2) = 2; countBelow(3, 2) = 2; countBelow(2, 3) = 0; nextBelow(0, 2, 0) = 1
            """;

    private static final String FORMULA = """
            formulaChar(0, 0) = throws IndexOutOfBoundsException
            text every x:of(x,y);not;some y:co(y);saw(x)
            readSentence() = 6
            formula 0 = every x(some y(co(y),of(x,y)),not(saw(x)))
            formula 1 = not(every x(some y(co(y),of(x,y)),saw(x)))
            formula 4 = some y(co(y),not(every x(of(x,y),saw(x))))
            formulaChar(0, 0) = 101; formulaChar(0, 41) = 41; formulaChar(0, 42) = -1
            formulaChar(0, 2147483647) = -1; formulaChar(0, -1) = throws IndexOutOfBoundsException
            formulaChar(5, 0) = throws IndexOutOfBoundsException; formulaChar(-1, 0) = throws IndexOutOfBoundsException
            # what is typed later does not change it
            text no z:zzz(z);zz(z,z)
            formula 1 = not(every x(some y(co(y),of(x,y)),saw(x)))
            readSentence() = 3
            formula 0 = no z(zzz(z),zz(z,z))
            text every u:every(u,u);most v:mostz(v,v);every w:every(w,w);every x:every(x,x);not;not;mostz(u,x)
            readSentence() = 11
            formula 0 = every u(every(u,u),most v(mostz(v,v),every w(every(w,w),every x(every(x,x),not(not(mostz(u,x)))))))
            """;

    public static void main(String[] args) {
        Script.exit(Script.run("counts", COUNTS) + Script.run("no readings", NO_READINGS)
                + Script.run("places", PLACES) + Script.run("polarity", POLARITY)
                + Script.run("below", BELOW) + Script.run("formula", FORMULA));
    }
}
