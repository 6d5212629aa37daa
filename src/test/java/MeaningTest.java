/** Promises 19 to 23: entailment and classes. */
public final class MeaningTest {
    private static final String TWO_QUANTIFIERS = """
            entails(0, 0) = throws IndexOutOfBoundsException; classOf(0) = throws IndexOutOfBoundsException
            isWeak(0) = throws IndexOutOfBoundsException; classes() = throws IllegalStateException
            strongest() = throws IllegalStateException
            text every x:p(x);some y:q(y);r(x,y)
            readSentence() = 5
            # 0: every x some y, 1: some y every x
            entails(0, 0) = true; entails(1, 1) = true; entails(1, 0) = true; entails(0, 1) = false
            classOf(0) = 0; classOf(1) = 1; classes() = 2; isWeak(0) = true; isWeak(1) = false; strongest() = 1
            entails(2, 0) = throws IndexOutOfBoundsException; entails(0, 2) = throws IndexOutOfBoundsException
            entails(-1, 0) = throws IndexOutOfBoundsException; entails(0, -1) = throws IndexOutOfBoundsException
            classOf(2) = throws IndexOutOfBoundsException; classOf(-1) = throws IndexOutOfBoundsException
            isWeak(2) = throws IndexOutOfBoundsException; isWeak(-1) = throws IndexOutOfBoundsException
            # the constraint leaves the weak reading alone: nothing entails it any more
            constrain(0, 1, 2) = 1; isWeak(0) = false; classes() = 1; strongest() = 1
            entails(1, 0) = throws IndexOutOfBoundsException
            release() = 2; isWeak(0) = true; entails(1, 0) = true
            text some x:p(x);some y:q(y);r(x,y)
            readSentence() = 5; entails(0, 1) = true; entails(1, 0) = true; classOf(1) = 0; classes() = 1
            strongest() = 1; isWeak(0) = false; isWeak(1) = false
            text no x:p(x);no y:q(y);r(x,y)
            readSentence() = 5; entails(0, 1) = false; entails(1, 0) = false; classes() = 2; strongest() = 2
            text most x:p(x);most y:q(y);r(x,y)
            readSentence() = 5; entails(0, 1) = false; entails(1, 0) = false; classes() = 2; strongest() = 2
            text some x:p(x);most y:q(y);r(x,y)
            readSentence() = 5; entails(0, 1) = false; entails(1, 0) = false; classes() = 2; strongest() = 2
            text no x:p(x);every y:q(y);r(x,y)
            readSentence() = 5; entails(0, 1) = false; entails(1, 0) = false; classes() = 2; strongest() = 2
            # r in hole 0 of q is no neighbour
            text every x:of(x,y);every y:co(y);saw(x)
            readSentence() = 5; entails(0, 1) = false; entails(1, 0) = false; classes() = 2; strongest() = 2
            """;

    private static final String UNDER_NEGATION = """
            text not;some x:a(x);every y:b(y);c(x,y)
            readSentence() = 6
            orders = 0 1 2 3 4 5 / 0 3 4 1 2 5 / 1 2 0 3 4 5 / 1 2 3 4 0 5 / 3 4 0 1 2 5 / 3 4 1 2 0 5
            entails(1, 0) = true; entails(0, 1) = false; entails(3, 5) = true; entails(5, 3) = false
            entails(2, 3) = false; entails(0, 2) = false; entails(4, 5) = false
            isWeak(0) = true; isWeak(1) = false; isWeak(2) = false; isWeak(3) = false; isWeak(4) = false; isWeak(5) = true
            classes() = 6; strongest() = 4; classOf(5) = 5
            text no z:a(z);some x:a(x);every y:a(y);c(x,y)
            readSentence() = 7
            entails(1, 0) = true; entails(0, 1) = false
            # two negations make the polarity 1 again
            text not;not;some x:a(x);every y:a(y);c(x,y)
            readSentence() = 7
            orders = \
            0 1 2 3 4 5 6 / 0 1 4 5 2 3 6 / 0 2 3 1 4 5 6 / 0 2 3 4 5 1 6 / 0 4 5 1 2 3 6 / 0 4 5 2 3 1 6 / \
            1 0 2 3 4 5 6 / 1 0 4 5 2 3 6 / 1 2 3 0 4 5 6 / 1 2 3 4 5 0 6 / 1 4 5 0 2 3 6 / 1 4 5 2 3 0 6 / \
            2 3 0 1 4 5 6 / 2 3 0 4 5 1 6 / 2 3 1 0 4 5 6 / 2 3 1 4 5 0 6 / 2 3 4 5 0 1 6 / 2 3 4 5 1 0 6 / \
            4 5 0 1 2 3 6 / 4 5 0 2 3 1 6 / 4 5 1 0 2 3 6 / 4 5 1 2 3 0 6 / 4 5 2 3 0 1 6 / 4 5 2 3 1 0 6
            entails(0, 1) = true; entails(1, 0) = false; entails(5, 3) = true; entails(3, 5) = false
            entails(16, 22) = true; entails(22, 16) = false
            # the scope of most keeps the polarity
            text most z:a(z);some x:a(x);every y:a(y);c(x,y)
            readSentence() = 7; entails(0, 1) = true; entails(1, 0) = false
            """;

    private static final String SEQUENCES = """
            text every x:a(x);every y:b(y);every z:c(z);p(x,y)
            readSentence() = 7; readings() = 6; classes() = 1; strongest() = 1
            entails(0, 5) = true; entails(5, 0) = true; classOf(5) = 0; classOf(3) = 0; isWeak(3) = false
            # 0: x y z, 1: x z y, 2: y x z, 3: y z x, 4: z x y, 5: z y x
            text some x:a(x);every y:b(y);every z:c(z);d(x,y)
            readSentence() = 7
            classOf(0) = 0; classOf(1) = 0; classOf(2) = 2; classOf(3) = 3; classOf(4) = 4; classOf(5) = 3
            classes() = 4; strongest() = 1
            entails(0, 1) = true; entails(0, 5) = true; entails(1, 3) = true; entails(1, 2) = true; entails(2, 3) = true
            entails(2, 5) = true; entails(2, 4) = false; entails(3, 0) = false; entails(5, 3) = true; entails(5, 4) = false
            isWeak(0) = false; isWeak(1) = false; isWeak(2) = true; isWeak(3) = true; isWeak(4) = true; isWeak(5) = true
            # without some of the readings, the steps over them are gone, too: now 0: x y z, 1: x z y, 2: y x z
            constrain(0, 1, 4) = 3; classes() = 2; strongest() = 1; entails(0, 2) = true; entails(1, 2) = true
            classOf(1) = 0; isWeak(2) = true
            # 0: x z y, 1: z x y, 2: z y x
            release() = 6; constrain(4, 1, 2) = 3; entails(0, 1) = true; entails(0, 2) = true; entails(1, 2) = true
            entails(2, 1) = false; classes() = 3; strongest() = 1
            """;

    /** Neighbours of one kind can change places: SSEE, 4 of SESE, 2 of SEES, 2 of ESSE, 4 of ESES, EESS. */
    private static final String FOUR_QUANTIFIERS = """
            text some u:a(u);some v:a(v);every w:a(w);every x:a(x);b(u,w)
            readSentence() = 9; readings() = 24; classes() = 14; strongest() = 1
            # the first is u v w x, the last is x w v u
            entails(0, 23) = true; entails(23, 0) = false; classOf(0) = 0; isWeak(0) = false; isWeak(23) = true
            new
            text some u:a(u);some v:a(v);every w:a(w);every x:a(x);b(u,w)
            readSentence() = 9; strongest() = 1
            new
            text some u:a(u);some v:a(v);every w:a(w);every x:a(x);b(u,w)
            readSentence() = 9; isWeak(23) = true; isWeak(7) = false
            # 7 is v u x w, 1 is u v x w
            place(7, 0) = 2; place(7, 2) = 0; place(7, 4) = 6; classOf(7) = 0; classOf(1) = 0
            # two orders of the negations, and three places for each of the four: 2 * 81
            text every u:a(u);every v:a(v);not;every w:a(w);every x:a(x);not;b(u,w)
            readSentence() = 11; readings() = 720; classes() = 162; strongest() = 162
            """;

    public static void main(String[] args) {
        Script.exit(Script.run("two quantifiers", TWO_QUANTIFIERS)
                + Script.run("under negation", UNDER_NEGATION) + Script.run("sequences", SEQUENCES)
                + Script.run("four quantifiers", FOUR_QUANTIFIERS));
    }
}
