/** Promises 1 to 5: a new object, the text, and the errors of a text. */
public final class TextTest {
    private static final String NEW_OBJECT = """
            clearText() = 0; errorKind() = 0; fragments() = 0; predicates() = 0; setDomain(1) = 2
            fingerprint() = 35557
            readings() = throws IllegalStateException; classes() = throws IllegalStateException
            strongest() = throws IllegalStateException; trueReadings() = throws IllegalStateException
            nextDifferent(0) = throws IllegalStateException; release() = throws IllegalStateException
            """;

    private static final String TYPE = """
            type(31) = throws IllegalArgumentException; type(127) = throws IllegalArgumentException
            type(-2147483648) = throws IllegalArgumentException; type(2147483647) = throws IllegalArgumentException
            type(32) = 1; type(126) = 2; type(97) = 3
            text 0123456789012345678901234567890123456789012345678901234567890123456789012345678901234567890123456
            # 100 characters: what is no code at all is told first
            type(97) = throws IllegalStateException; type(31) = throws IllegalArgumentException
            type(127) = throws IllegalArgumentException
            clearText() = 100; type(97) = 1
            """;

    private static final String CLEAR_TEXT = """
            clearText() = 0
            text some x:p(x);q(x)
            clearText() = 16; clearText() = 0; type(97) = 1; clearText() = 1
            text some x:p(x);q(x)
            readSentence() = 3; clearText() = 0; fragments() = 3
            """;

    private static final String READ_SENTENCE = """
            # an error leaves the text, and a later try reads what was appended
            text some x:p(x);q
            readSentence() = -14; readSentence() = -14; errorKind() = 1; fragments() = 0
            text (x)
            readSentence() = 3; errorKind() = 0; clearText() = 0
            # the empty text is no sentence, and the former sentence stays, with all that belongs to it
            setFact(1, 1, 0, true) = false; constrain(0, 1, 2) = 1
            readSentence() = -1; errorKind() = 1; fragments() = 3
            text a(x)
            readSentence() = -3; errorKind() = 2; fragments() = 3; readings() = 1; predicates() = 2
            setFact(1, 1, 0, true) = true; release() = 1; constrain(0, 1, 2) = 1
            clearText() = 4; errorKind() = 2
            # a sentence replaces the former one; the domain stays
            setDomain(3) = 2; setFact(1, 2, 0, true) = false
            text every x:p(x);some y:q(y);r(x,y)
            readSentence() = 5; errorKind() = 0; release() = throws IllegalStateException
            setFact(1, 2, 0, false) = false; setFact(0, 0, 0, false) = false; predicates() = 3; setDomain(3) = 3
            text not;every x:p(x);q(x)
            readSentence() = 4; predicates() = 2; readings() = 2
            """;

    /** A text, the answer of readSentence, and the kind of its error. */
    private static final String[][] ERRORS = {
        // the beginning of an item
        {"", "-1", "1"}, {";", "-1", "1"}, {" ", "-1", "1"}, {"Some x", "-1", "1"}, {"(x)", "-1", "1"},
        {"every", "-6", "1"}, {"every ", "-7", "1"}, {"sums x", "-5", "1"}, {"any x:p(x)", "-4", "1"},
        {"some;", "-5", "1"}, {"not ", "-4", "1"}, {"nots;", "-5", "1"}, {"not", "-4", "1"}, {"not;", "-5", "1"},
        {"not;;", "-5", "1"}, {"ever y:p(y)", "-5", "1"}, {"everyx:p(x)", "-6", "1"}, {"{", "-1", "1"}, {"`", "-1", "1"},
        // the variable
        {"some  x:p(x);q(x)", "-6", "1"}, {"some t:p(t);q(t)", "-6", "1"}, {"some {:", "-6", "1"}, {"some x;", "-7", "1"},
        {"some xy:", "-7", "1"}, {"some x", "-7", "1"}, {"some x:", "-8", "1"}, {"some x: p(x)", "-8", "1"},
        // atoms
        {"abcdef(x)", "-6", "1"}, {"some x:abcdef(x);q(x)", "-13", "1"}, {"p (x)", "-2", "1"}, {"p(t)", "-3", "1"},
        {"p()", "-3", "1"}, {"p(x", "-4", "1"}, {"p(x;", "-4", "1"}, {"p(xy)", "-4", "1"}, {"p(x,)", "-5", "1"},
        {"p(x,", "-5", "1"}, {"some x:p(x,;q(x)", "-12", "1"}, {"some x:p(x;q(x)", "-11", "1"}, {"some x:p;q(x)", "-9", "1"},
        {"p(x, y)", "-5", "1"}, {"p(x,y,z)", "-6", "1"}, {"p(x,y", "-6", "1"}, {"p2(x)", "-2", "1"},
        // the end
        {"some x:p(x)", "-12", "1"}, {"some x:p(x);", "-13", "1"}, {"some x:p(x) ;q(x)", "-12", "1"},
        {"some x:p(x);q(x);", "-17", "1"}, {"some x:p(x);q(x) ", "-17", "1"}, {"some x:p(x);q(x);r(x)", "-17", "1"},
        {"p(x);some x:q(x);r(x)", "-5", "1"}, {"some x:p(x);not", "-16", "1"}, {"some x:p(x);not;", "-17", "1"},
        // words are names if "(" is behind them
        {"every x:every(x);not(x)", "3", "0"}, {"some(x)", "-6", "2"}, {"not;not(x)", "-9", "2"},
        {"no x:no(x);most(x,x)", "3", "0"}, {"some x:not;q(x)", "-11", "1"}, {"some x:no x:p(x)", "-10", "1"},
        // limits
        {"no u:p(u);no v:p(v);no w:p(w);no x:p(x);q(u)", "9", "0"},
        {"no u:p(u);no v:p(v);no w:p(w);no x:p(x);no(u)", "9", "0"},
        {"no u:p(u);no v:p(v);no w:p(w);no x:p(x);no y:p(y);q(u)", "-43", "1"},
        {"no u:p(u);no v:p(v);no w:p(w);no x:p(x);every", "-46", "1"},
        {"not;not;some x:p(x);q(x)", "5", "0"}, {"not;not;not;some x:p(x);q(x)", "-12", "1"},
        {"not;some x:p(x);not;not", "-24", "1"}, {"some x:p(x);not;not;not(x)", "5", "0"},
        {"every u:abcde(u,v);every v:abcde(v,v);every w:abcde(w,w);every x:abcde(x,x);not;not;abcde(u,x)", "11", "0"},
        // the use of variables and names
        {"a(x)", "-3", "2"}, {"a(x,y)", "-3", "2"}, {"some x:p(x);q(y)", "-15", "2"}, {"some x:p(x);q(x,y)", "-17", "2"},
        {"some x:p(x);q(z,y)", "-15", "2"}, {"some x:p(x,y);q(x)", "-12", "2"}, {"some x:p(y,x);q(x)", "-10", "2"},
        {"some x:p(x,y);some y:q(y);r(x)", "5", "0"}, {"some x:p(y);some y:q(y);r(x)", "-8", "2"},
        {"some x:p(x);every x:q(x);r(x)", "-19", "2"}, {"some x:p(x);every x:q(y);r(x)", "-19", "2"},
        {"some x:p(x);p(x,x)", "-13", "2"}, {"some x:p(x,x);p(x)", "-15", "2"}, {"some x:p(x);p(y,x)", "-13", "2"},
        {"some x:p(x);some y:p(y,x);q(z)", "-20", "2"}, {"some x:p(x);some y:pp(y,x);q(y)", "5", "0"},
        {"some x:x(x);u(x)", "3", "0"}, {"some x:x(u);u(x)", "-8", "2"},
        // the form is told first, even if its error is behind the other one
        {"some x:p(y);q", "-14", "1"}, {"some x:p(x);some x:p(x);q(x),", "-29", "1"},
    };

    public static void main(String[] args) {
        int wrong = Script.run("a new object", NEW_OBJECT) + Script.run("type", TYPE)
                + Script.run("clearText", CLEAR_TEXT) + Script.run("readSentence", READ_SENTENCE);
        for (String[] row : ERRORS) {
            wrong += readText(row[0], row[1], row[2]);
        }
        Script.exit(wrong);
    }

    private static int readText(String text, String answer, String kind) {
        ScopeLister lister = new ScopeLister();
        text.chars().forEach(lister::type);
        String got = lister.readSentence() + " " + lister.errorKind() + " " + lister.clearText();
        String due = answer + " " + kind + " " + (kind.equals("0") ? 0 : text.length());
        if (!got.equals(due)) {
            System.out.println("'" + text + "' answered " + got + ", due is " + due);
        }
        return got.equals(due) ? 0 : 1;
    }
}
