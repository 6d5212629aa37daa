/** The four examples of the document, under "Terms", as they stand there. */
public final class ExamplesTest {
    private static final String ONE_QUANTIFIER = """
            type(110) = 1; type(111) = 2; type(32) = 3; type(120) = 4; type(58) = 5; type(112) = 6
            type(40) = 7; type(120) = 8; type(41) = 9; type(59) = 10; type(113) = 11; type(40) = 12
            type(120) = 13; type(41) = 14; readSentence() = 3; readings() = 1.
            """;

    private static final String ENDS_TOO_EARLY = """
            type(115) = 1; type(111) = 2; type(109) = 3; type(101) = 4; type(32) = 5; type(120) = 6
            type(58) = 7; type(112) = 8; type(40) = 9; type(120) = 10; type(41) = 11; type(59) = 12
            type(113) = 13; readSentence() = -14; errorKind() = 1; clearText() = 13.
            """;

    private static final String FREE_VARIABLE = """
            type(97) = 1; type(40) = 2; type(120) = 3; type(41) = 4; readSentence() = -3
            errorKind() = 2; readings() = throws IllegalStateException; clearText() = 4.
            """;

    private static final String NO_SENTENCE = """
            setDomain(3) = 2; setDomain(0) = throws IllegalArgumentException; predicates() = 0
            kindOf(0) = throws IndexOutOfBoundsException; release() = throws IllegalStateException.
            """;

    public static void main(String[] args) {
        Script.exit(Script.run("example 1", ONE_QUANTIFIER)
                + Script.run("example 2", ENDS_TOO_EARLY)
                + Script.run("example 3", FREE_VARIABLE)
                + Script.run("example 4", NO_SENTENCE));
    }
}
