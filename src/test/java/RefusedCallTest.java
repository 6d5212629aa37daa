import java.util.ArrayList;
import java.util.List;

/**
 * "A call that throws an exception changes nothing": each call of the face that throws one is made in
 * several states, and then all that can be asked answers as it does on an object without this call.
 * So it does after a text with an error, but for the kind of the error.
 */
public final class RefusedCallTest {
    private static final String OUT = "IndexOutOfBoundsException";
    private static final String ARGUMENT = "IllegalArgumentException";
    private static final String STATE = "IllegalStateException";

    private static final String FULL_TEXT = "~".repeat(100);
    private static final String HALF_TEXT = "no x:p(x);q";

    /** The text of a sentence (or none), the calls behind it, and what is typed then. */
    private record State(String text, List<String> calls, String typed) { }

    private static final State NOTHING = new State("", List.of("setDomain(3)"), HALF_TEXT);
    private static final State NOTHING_FULL = new State("", List.of("errorKind()"), FULL_TEXT);

    /** Six constraints, one of them twice, that leave all five readings. */
    private static final State ALL_CONSTRAINTS = new State("every x:of(x,y);not;some y:co(y);saw(x)",
            List.of("setDomain(3)", "constrain(0, 1, 5)", "constrain(2, 0, 5)", "constrain(3, 1, 1)",
                    "constrain(3, 1, 1)", "constrain(0, 1, 5)", "constrain(3, 0, 4)", "setFact(0, 2, 1, true)",
                    "setFact(1, 1, 0, true)", "setFact(2, 2, 0, true)"), FULL_TEXT);
    private static final State NO_CONSTRAINT = new State("every x:of(x,y);not;some y:co(y);saw(x)",
            List.of("setFact(0, 1, 1, true)", "setFact(1, 1, 0, true)"), HALF_TEXT);
    private static final State NO_READINGS = new State("every x:of(x,y);not;some y:co(y);saw(x)",
            List.of("setDomain(1)", "constrain(0, 0, 0)", "setFact(1, 0, 0, true)"), "");

    private static final String[] WITHOUT_SENTENCE = {
        "kindOf(0)", OUT, "hasEdge(0, 0, 0)", OUT, "constrain(0, 0, 0)", OUT, "release()", STATE, "readings()", STATE,
        "place(0, 0)", OUT, "plug(0, 0, 0)", OUT, "above(0, 0)", OUT, "polarity(0, 0)", OUT, "countBelow(0, 0)", OUT,
        "nextBelow(0, 0, 0)", OUT, "formulaChar(0, 0)", OUT, "entails(0, 0)", OUT, "classOf(0)", OUT, "classes()", STATE,
        "isWeak(0)", OUT, "strongest()", STATE, "arity(0)", OUT, "setFact(0, 0, 0, true)", OUT,
        "setFact(0, 9, 9, true)", OUT, "truth(0)", OUT, "trueReadings()", STATE, "nextDifferent(0)", STATE,
        "nextDifferent(-1)", STATE,
    };

    private static final String[] ALWAYS = {
        "type(31)", ARGUMENT, "type(127)", ARGUMENT, "setDomain(0)", ARGUMENT, "setDomain(4)", ARGUMENT,
        "kindOf(-1)", OUT, "kindOf(6)", OUT, "hasEdge(6, 0, 0)", OUT, "hasEdge(0, 2, 0)", OUT, "hasEdge(0, 0, 6)", OUT,
        "constrain(6, 0, 0)", OUT, "constrain(-1, 0, 0)", OUT, "constrain(0, 2, 0)", OUT, "constrain(0, -1, 0)", OUT,
        "constrain(0, 0, 6)", OUT, "constrain(0, 0, -1)", OUT, "constrain(2, 1, 0)", OUT, "constrain(1, 0, 0)", OUT,
        "place(5, 0)", OUT, "place(0, 6)", OUT, "place(-1, 0)", OUT, "place(0, -1)", OUT,
        "plug(5, 0, 0)", OUT, "plug(0, 6, 0)", OUT, "plug(0, 2, 1)", OUT, "plug(0, 1, 0)", OUT,
        "above(5, 0)", OUT, "above(0, 6)", OUT, "polarity(5, 0)", OUT, "polarity(0, 6)", OUT,
        "countBelow(6, 0)", OUT, "countBelow(0, 6)", OUT, "countBelow(-1, 0)", OUT, "countBelow(0, -1)", OUT,
        "nextBelow(-1, 0, 0)", OUT, "nextBelow(0, 6, 0)", OUT, "nextBelow(0, 0, 6)", OUT,
        "formulaChar(5, 0)", OUT, "formulaChar(0, -1)", OUT, "entails(5, 0)", OUT, "entails(0, 5)", OUT,
        "classOf(5)", OUT, "classOf(-1)", OUT, "isWeak(5)", OUT, "isWeak(-1)", OUT, "arity(3)", OUT, "arity(-1)", OUT,
        "setFact(3, 0, 0, true)", OUT, "setFact(-1, 0, 0, true)", OUT, "setFact(3, 3, 3, false)", OUT,
        "setFact(0, 3, 0, true)", ARGUMENT, "setFact(0, 0, 3, true)", ARGUMENT, "setFact(0, -1, 0, false)", ARGUMENT,
        "setFact(0, 0, -1, false)", ARGUMENT, "setFact(1, 0, 1, true)", ARGUMENT, "setFact(1, 3, 0, false)", ARGUMENT,
        "truth(5)", OUT, "truth(-1)", OUT, "nextDifferent(-1)", OUT,
    };

    private static final String[] FULL = {"type(97)", STATE, "type(31)", ARGUMENT, "type(127)", ARGUMENT};
    private static final String[] SIX_CONSTRAINTS = {"constrain(0, 1, 2)", STATE, "constrain(2, 0, 0)", STATE};
    private static final String[] NO_CONSTRAINTS = {"release()", STATE};

    /** Two texts with an error of kind 1, and two with one of kind 2. */
    private static final String[] WRONG_TEXTS = {"", "~", "q(x)", "every x:of(x,y);not;some y:co(y);saw(z)"};

    private static int wrong = 0;

    public static void main(String[] args) {
        refuseAll(NOTHING, WITHOUT_SENTENCE);
        refuseAll(NOTHING, new String[] {"type(31)", ARGUMENT, "type(127)", ARGUMENT, "setDomain(0)", ARGUMENT});
        refuseAll(NOTHING_FULL, FULL);
        refuseAll(NOTHING_FULL, WITHOUT_SENTENCE);
        refuseAll(ALL_CONSTRAINTS, ALWAYS);
        refuseAll(ALL_CONSTRAINTS, FULL);
        refuseAll(ALL_CONSTRAINTS, SIX_CONSTRAINTS);
        refuseAll(NO_CONSTRAINT, ALWAYS);
        refuseAll(NO_CONSTRAINT, NO_CONSTRAINTS);
        refuseAll(NO_READINGS, ALWAYS);
        refuseAll(NO_READINGS, new String[] {"place(0, 0)", OUT, "truth(0)", OUT, "classOf(0)", OUT, "isWeak(0)", OUT});
        for (State state : List.of(NOTHING, ALL_CONSTRAINTS, NO_CONSTRAINT, NO_READINGS)) {
            for (String text : WRONG_TEXTS) {
                readWrongText(state, text);
            }
        }
        Script.exit(wrong);
    }

    private static void refuseAll(State state, String[] callsAndNames) {
        List<String> due = lookAround(make(state));
        for (int k = 0; k < callsAndNames.length; k += 2) {
            ScopeLister lister = make(state);
            String answer = Script.answer(lister, callsAndNames[k]);
            check(answer.equals("throws " + callsAndNames[k + 1]), callsAndNames[k] + " answered " + answer);
            compare(callsAndNames[k], lookAround(lister), due);
        }
    }

    private static void readWrongText(State state, String text) {
        ScopeLister lister = make(state);
        ScopeLister other = make(state);
        lister.clearText();
        other.clearText();
        text.chars().forEach(lister::type);
        text.chars().forEach(other::type);
        check(lister.readSentence() < 0 && lister.errorKind() > 0, "'" + text + "' is no sentence");
        check(lister.readSentence() < 0 && lister.errorKind() > 0, "'" + text + "' is none for the second time");
        List<String> got = lookAround(lister);
        List<String> due = lookAround(other);
        // the kind of the error is the first of them
        compare("'" + text + "'", got.subList(1, got.size()), due.subList(1, due.size()));
    }

    private static ScopeLister make(State state) {
        ScopeLister lister = new ScopeLister();
        state.text.chars().forEach(lister::type);
        if (!state.text.isEmpty()) {
            lister.readSentence();
        }
        for (String call : state.calls) {
            check(!Script.answer(lister, call).startsWith("throws"), call + " prepares a state");
        }
        state.typed.chars().forEach(lister::type);
        return lister;
    }

    private static void compare(String call, List<String> got, List<String> due) {
        for (int k = 0; k < due.size(); k++) {
            check(got.get(k).equals(due.get(k)), "after " + call + ": " + got.get(k) + ", due is " + due.get(k));
        }
    }

    private static void check(boolean isRight, String what) {
        if (!isRight) {
            wrong++;
            System.out.println("not as due: " + what);
        }
    }

    /** Asks for all that can be seen of an object; only what is asked last changes it. */
    private static List<String> lookAround(ScopeLister lister) {
        List<String> seen = new ArrayList<>();
        for (String call : List.of("errorKind()", "fragments()", "readings()", "fingerprint()", "classes()",
                "strongest()", "trueReadings()", "nextDifferent(0)", "predicates()")) {
            ask(lister, call, seen);
        }
        lookAtFragments(lister, seen);
        for (int k = 0; k < 44; k++) {
            ask(lister, "formulaChar(0, " + k + ")", seen);
        }
        // the text: its error, and its length
        ask(lister, "readSentence()", seen);
        ask(lister, "clearText()", seen);
        int predicates = lister.predicates();
        for (int k = 0; k < predicates * 9; k++) {
            ask(lister, "setFact(" + k / 9 + ", " + k / 3 % 3 + ", " + k % 3 + ", false)", seen);
        }
        for (int k = 0; k < 7; k++) {
            ask(lister, "release()", seen);
        }
        ask(lister, "setDomain(2)", seen);
        return seen;
    }

    private static void lookAtFragments(ScopeLister lister, List<String> seen) {
        int fragments = lister.fragments();
        for (int fragment = 0; fragment < fragments; fragment++) {
            ask(lister, "kindOf(" + fragment + ")", seen);
            ask(lister, "above(0, " + fragment + ")", seen);
            ask(lister, "polarity(0, " + fragment + ")", seen);
            for (int hole = 0; hole < 2; hole++) {
                for (int target = 0; target < fragments; target++) {
                    ask(lister, "hasEdge(" + fragment + ", " + hole + ", " + target + ")", seen);
                }
            }
        }
    }

    private static void ask(ScopeLister lister, String call, List<String> seen) {
        seen.add(call + " = " + Script.answer(lister, call));
    }
}
