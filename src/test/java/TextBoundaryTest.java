/** The boundary cases of promises 1 to 5 and of the text under "Terms"; each sentence has its own object. */
public final class TextBoundaryTest {
    private static final String ITEMS = """
            == Terms: one of the words every, some, no, most
            read every x:p(x);q(x) -> 3 0
            read some x:p(x);q(x) -> 3 0
            read no x:p(x);q(x) -> 3 0
            read most x:p(x);q(x) -> 3 0
            read all x:p(x);q(x) -> -4 1
            read ever x:p(x);q(x) -> -5 1
            read everyy x:p(x);q(x) -> -6 1
            read som x:p(x);q(x) -> -4 1
            read n x:p(x);q(x) -> -2 1
            read non x:p(x);q(x) -> -4 1
            read mostt x:p(x);q(x) -> -6 1
            read not x:p(x);q(x) -> -4 1
            read Every x:p(x);q(x) -> -1 1
            # only the first letter is another one
            read avery x:p(x);q(x) -> -6 1
            read come x:p(x);q(x) -> -5 1
            read so x:p(x);q(x) -> -3 1
            read host x:p(x);q(x) -> -5 1
            # only the last letter is another one
            read everz x:p(x);q(x) -> -6 1
            read nu x:p(x);q(x) -> -3 1
            == Terms: a blank
            read nox:p(x);q(x) -> -4 1
            read no  x:p(x);q(x) -> -4 1
            read no;x:p(x);q(x) -> -3 1
            == Terms: a variable (one of the letters u to z)
            read no u:p(u);q(u) -> 3 0
            read no z:p(z);q(z) -> 3 0
            read no t:p(t);q(t) -> -4 1
            read no {:p({);q({) -> -4 1
            read no U:p(U);q(U) -> -4 1
            read no :p(x);q(x) -> -4 1
            == Terms: a colon, and an atom, its restriction
            read no x;p(x);q(x) -> -5 1
            read no xp(x);q(x) -> -5 1
            read no x::p(x);q(x) -> -6 1
            read no x:;q(x) -> -6 1
            read no x:not;q(x) -> -9 1
            read no x:no y:p(y);q(x) -> -8 1
            == Terms: a negation item: the word not
            read not;no x:p(x);q(x) -> 4 0
            read no x:p(x);not;q(x) -> 4 0
            read nots;no x:p(x);q(x) -> -5 1
            read nit;no x:p(x);q(x) -> -4 1
            read hot;no x:p(x);q(x) -> -4 1
            read nor;no x:p(x);q(x) -> -4 1
            read not no x:p(x);q(x) -> -4 1
            == Terms: the last item is an atom, the nucleus
            read not -> -4 1
            read not; -> -5 1
            read no x:p(x) -> -10 1
            read no x:p(x); -> -11 1
            read no x:p(x);not -> -14 1
            read no x:p(x);not; -> -15 1
            == Terms: no other item is an atom
            read p(x);no x:p(x);q(x) -> -5 1
            read no x:p(x);q(x);q(x) -> -15 1
            read no x:p(x);q(x);not;q(x) -> -15 1
            == Terms: items, separated by semicolons
            read no x:p(x)q(x) -> -10 1
            read no x:p(x),q(x) -> -10 1
            read ;no x:p(x);q(x) -> -1 1
            read no x:p(x);;q(x) -> -11 1
            read not;;no x:p(x);q(x) -> -5 1
            read no x:p(x);q(x); -> -15 1
            == Terms: There are no other characters.
            read  no x:p(x);q(x) -> -1 1
            read no x: p(x);q(x) -> -6 1
            read no x:p (x);q(x) -> -7 1
            read no x:p( x);q(x) -> -8 1
            read no x:p(x );q(x) -> -9 1
            read no x:p(x) ;q(x) -> -10 1
            read no x:p(x); q(x) -> -11 1
            read no x:p(x);q(x)  -> -15 1
            read no x:p(x);q(x). -> -15 1
            read no x:p(x);q(x)~ -> -15 1
            == Terms: The first item is the one that begins with the text.
            read q(x) -> -3 2
            read  q(x) -> -1 1
            read  -> -1 1
            """;

    private static final String ATOMS = """
            == Terms: a name (1 to 5 letters
            read no x:p(x);q(x) -> 3 0
            read no x:abcde(x);vwxyz(x) -> 3 0
            read no x:(x);q(x) -> -6 1
            read no x:p(x);(x) -> -11 1
            read no x:abcdef(x);q(x) -> -11 1
            read no x:p(x);abcdef(x) -> -16 1
            read abcdef -> -6 1
            == Terms: letters a to z
            read no x:a(x);z(x) -> 3 0
            read no x:`(x);q(x) -> -6 1
            read no x:{(x);q(x) -> -6 1
            read no x:p(x);A(x) -> -11 1
            read no x:p(x);a`(x) -> -12 1
            read no x:p(x);z{(x) -> -12 1
            read no x:p(x);q1(x) -> -12 1
            == Terms: as many as possible
            read no x:xyzuv(x);x(x) -> 3 0
            predicates() = 2; clearText() = 0
            read no x:ab(x);a(x) -> 3 0
            predicates() = 2
            == Terms: one variable, or two variables with a comma between them
            read no x:p(x);q(x,x) -> 3 0
            arity(0) = 1; arity(1) = 2
            read no x:p(x);q() -> -13 1
            read no x:p(x);q(,x) -> -13 1
            read no x:p(x);q(t) -> -13 1
            read no x:p(x);q({) -> -13 1
            read no x:p(x);q(xx) -> -14 1
            read no x:p(x);q(x,) -> -15 1
            read no x:p(x);q(x,t) -> -15 1
            read no x:p(x);q(x,{) -> -15 1
            read no x:p(x);q(x,,x) -> -15 1
            read no x:p(x);q(x,x,x) -> -16 1
            read no x:p(x);q(x,xx) -> -16 1
            == Terms: "(" and ")"
            read no x:p(x);q -> -12 1
            read no x:p(x);qx) -> -13 1
            read no x:p(x);q[x) -> -12 1
            read no x:p(x);q((x) -> -13 1
            read no x:p(x);q(x -> -14 1
            read no x:p(x);q(x] -> -14 1
            read no x:p(x);q(x)) -> -15 1
            read no x:p(x;q(x) -> -9 1
            == Terms: A name directly followed by "(" always begins an atom, also if it is one of the words.
            read no x:every(x);some(x) -> 3 0
            read no x:no(x);most(x) -> 3 0
            read no x:not(x);not(x) -> 3 0
            read every(x) -> -7 2
            read some(x) -> -6 2
            read no(x) -> -4 2
            read most(x) -> -6 2
            read not(x) -> -5 2
            read no(x);no x:p(x);q(x) -> -6 1
            read not(x);no x:p(x);q(x) -> -7 1
            read not (x) -> -4 1
            """;

    private static final String LIMITS = """
            == Terms: There are at most 4 quantifier items
            read no u:p(u);no v:p(v);no w:p(w);no x:p(x);q(u) -> 9 0
            read no u:p(u);no v:p(v);no w:p(w);no x:p(x);no y:p(y);q(u) -> -43 1
            read no u:p(u);no v:p(v);no w:p(w);no x:p(x);every y:p(y);q(u) -> -46 1
            read no u:p(u);no v:p(v);no w:p(w);no x:p(x);no -> -43 1
            read no u:p(u);no v:p(v);no w:p(w);no x:p(x);no(u) -> 9 0
            == Terms: and at most 2 negation items
            read not;not;no x:p(x);q(x) -> 5 0
            read not;no x:p(x);not;q(x) -> 5 0
            read not;not;not;no x:p(x);q(x) -> -12 1
            read not;not;no x:p(x);not;q(x) -> -22 1
            read not;not;not -> -12 1
            read not;not;no x:p(x);not -> -22 1
            read not;not;no x:p(x);not(x) -> 5 0
            == Terms: both limits at once
            read not;no u:p(u);no v:p(v);not;no w:p(w);no x:p(x);q(u) -> 11 0
            read not;not;no u:p(u);no v:p(v);no w:p(w);no x:p(x);not;q(u) -> -52 1
            read not;not;no u:p(u);no v:p(v);no w:p(w);no x:p(x);no y:p(y);q(u) -> -51 1
            """;

    private static final String ERRORS = """
            == Terms: the index of the first character such that no text of this form begins with the characters up to it
            read q(x)q(x)) -> -5 1
            read qqqqqqq -> -6 1
            read abc def -> -4 1
            read some -> -5 1
            read ~~ -> -1 1
            == Terms: the variable ... that an earlier quantifier item has, too (the index of this variable)
            read no x:p(x);some x:p(x);q(x) -> -16 2
            read no x:p(x);some y:p(y);not;most x:p(x);q(x) -> -32 2
            read no x:p(x);no x:p(x);no x:p(x);q(x) -> -14 2
            == Terms: a restriction that does not contain the variable of its item (the index of its name)
            read no x:p(y);some y:p(y);q(x) -> -6 2
            read no x:p(y,y);some y:r(y);q(x) -> -6 2
            read no x:x(y);some y:p(y);q(x) -> -6 2
            read no x:p(x);some y:abc(x);q(x) -> -18 2
            read no x:p(y,x);some y:r(y);q(x) -> 5 0
            read no x:p(x,y);some y:r(y);q(x) -> 5 0
            == Terms: a variable of an atom that no quantifier item has (its index)
            read no x:p(x);q(y) -> -13 2
            read no x:p(x);q(x,y) -> -15 2
            read no x:p(x);q(y,x) -> -13 2
            read no x:p(x);q(y,z) -> -13 2
            read no x:p(x,y);q(x) -> -10 2
            read no x:p(y,x);q(x) -> -8 2
            read no x:p(x);abcde(x,u) -> -19 2
            read no x:p(x,y);no y:r(y);q(x) -> 5 0
            == Terms: a name that occurred earlier with another number of variables (the index of the name)
            read no x:p(x);p(x,x) -> -11 2
            read no x:p(x,x);p(x) -> -13 2
            read no x:p(x);some y:p(y,x);q(x) -> -18 2
            read no x:p(x);some y:q(y);p(x,y) -> -23 2
            read no x:abcde(x);abcde(x,x) -> -15 2
            read no x:ab(x,x);some y:ba(y);ab(x) -> -27 2
            read no x:p(x);p(x) -> 3 0
            read no x:p(x);pp(x,x) -> 3 0
            read no x:pp(x);p(x,x) -> 3 0
            read no x:ab(x);ac(x,x) -> 3 0
            read no x:ab(x);bb(x,x) -> 3 0
            read no x:ab(x);ba(x,x) -> 3 0
            == Terms: its position is the least index that belongs to one of them
            # the variable that is there twice, before its restriction
            read no x:p(x);some x:p(y);q(x) -> -16 2
            # the restriction's name, before its variable
            read no x:p(y);q(x) -> -6 2
            # a variable, before a later name, and before a later variable that is there twice
            read no x:p(x,y);p(x) -> -10 2
            read no x:p(x,z);no x:p(x,x);q(x) -> -10 2
            # a name, before the variable behind it
            read no x:p(x);p(y,x) -> -11 2
            read no x:p(x);some y:p(y,z);q(x) -> -18 2
            == Terms: Otherwise it has an error of kind 2
            read no x:p(y);q(x -> -14 1
            read no x:p(x);no x:p(x);q(x); -> -25 1
            read q(x) -> -3 2
            read q(x); -> -5 1
            """;

    private static final String PROMISES = """
            == Terms: There is a text, a buffer of at most 100 characters with codes from 32 to 126, initially empty.
            clearText() = 0; type(32) = 1; type(126) = 2; readSentence() = -1; clearText() = 2
            text ~~~~~~~~~~~~~~~~~~~~~~~~~~~~~~~~~~~~~~~~~~~~~~~~~~~~~~~~~~~~~~~~~~~~~~~~~~~~~~~~~~~~~~~~~~~~~~~~~~~
            type(126) = 100; type(126) = throws IllegalStateException; clearText() = 100
            == promise 1: Creates a lister without a sentence.
            errorKind() = 0; clearText() = 0; fragments() = 0; predicates() = 0; fingerprint() = 35557
            kindOf(0) = throws IndexOutOfBoundsException; hasEdge(0, 0, 0) = throws IndexOutOfBoundsException
            constrain(0, 0, 0) = throws IndexOutOfBoundsException; release() = throws IllegalStateException
            readings() = throws IllegalStateException; place(0, 0) = throws IndexOutOfBoundsException
            plug(0, 0, 0) = throws IndexOutOfBoundsException; above(0, 0) = throws IndexOutOfBoundsException
            polarity(0, 0) = throws IndexOutOfBoundsException; countBelow(0, 0) = throws IndexOutOfBoundsException
            nextBelow(0, 0, 0) = throws IndexOutOfBoundsException; formulaChar(0, 0) = throws IndexOutOfBoundsException
            entails(0, 0) = throws IndexOutOfBoundsException; classOf(0) = throws IndexOutOfBoundsException
            classes() = throws IllegalStateException; isWeak(0) = throws IndexOutOfBoundsException
            strongest() = throws IllegalStateException; arity(0) = throws IndexOutOfBoundsException
            setFact(0, 0, 0, true) = throws IndexOutOfBoundsException; truth(0) = throws IndexOutOfBoundsException
            trueReadings() = throws IllegalStateException; nextDifferent(0) = throws IllegalStateException
            readSentence() = -1; errorKind() = 1; setDomain(2) = 2
            == promise 2: c: its code, 32 to 126
            type(32) = 1; type(126) = 2; type(31) = throws IllegalArgumentException
            type(127) = throws IllegalArgumentException; type(0) = throws IllegalArgumentException
            type(-1) = throws IllegalArgumentException; type(-32) = throws IllegalArgumentException
            type(128) = throws IllegalArgumentException; type(255) = throws IllegalArgumentException
            # no code comes round to that of "a"
            type(225) = throws IllegalArgumentException; type(353) = throws IllegalArgumentException
            type(65633) = throws IllegalArgumentException; type(-159) = throws IllegalArgumentException
            type(2147483647) = throws IllegalArgumentException; type(-2147483648) = throws IllegalArgumentException
            clearText() = 2
            == promise 2: Returns the length of the text.
            type(113) = 1; type(40) = 2; readSentence() = -3; type(120) = 3; clearText() = 3; type(113) = 1
            == promise 2: Throws IllegalStateException if the text has 100 characters already
            text aaaaaaaaaaaaaaaaaaaaaaaaaaaaaaaaaaaaaaaaaaaaaaaaaaaaaaaaaaaaaaaaaaaaaaaaaaaaaaaaaaaaaaaaaaaaaaaaaa
            type(97) = 99; type(97) = 100; type(97) = throws IllegalStateException
            type(32) = throws IllegalStateException; type(126) = throws IllegalStateException
            readSentence() = -6; type(97) = throws IllegalStateException; clearText() = 100; type(97) = 1
            == promise 2: both exceptions apply, and the one that is listed first is thrown
            text aaaaaaaaaaaaaaaaaaaaaaaaaaaaaaaaaaaaaaaaaaaaaaaaaaaaaaaaaaaaaaaaaaaaaaaaaaaaaaaaaaaaaaaaaaaaaaaaaa
            text aa
            type(31) = throws IllegalArgumentException; type(127) = throws IllegalArgumentException
            type(32) = throws IllegalStateException
            == promise 3: Makes the text empty. Returns the length that it had.
            clearText() = 0; clearText() = 0; type(97) = 1; clearText() = 1; clearText() = 0; readSentence() = -1
            text aaaaaaaaaaaaaaaaaaaaaaaaaaaaaaaaaaaaaaaaaaaaaaaaaaaaaaaaaaaaaaaaaaaaaaaaaaaaaaaaaaaaaaaaaaaaaaaaaa
            type(97) = 99; type(97) = 100; clearText() = 100; clearText() = 0
            # what comes then is read from its own beginning
            text no x:p(x);q(x)
            readSentence() = 3
            == promise 4: Reads the text as a sentence, which replaces the former one.
            read not;no u:a(u);no v:b(v);not;no w:c(w);no x:d(x);e(u) -> 11 0
            readings() = 720; predicates() = 5
            read no x:p(x,x);p(x,x) -> 3 0
            fragments() = 3; readings() = 1; predicates() = 1; arity(0) = 2; kindOf(0) = 3; kindOf(1) = 0
            kindOf(3) = throws IndexOutOfBoundsException; arity(1) = throws IndexOutOfBoundsException
            place(1, 0) = throws IndexOutOfBoundsException; place(0, 3) = throws IndexOutOfBoundsException
            formula 0 = no x(p(x,x),p(x,x))
            == promise 4: The text is empty then
            text no x:p(x);q(x)
            readSentence() = 3; clearText() = 0
            text no x:p(x);q(x)
            readSentence() = 3; type(97) = 1; readSentence() = -2; errorKind() = 1
            == promise 4: there are no constraints
            read every x:p(x);some y:q(y);r(x,y) -> 5 0
            constrain(0, 1, 2) = 1; constrain(0, 1, 2) = 1; constrain(0, 1, 2) = 1
            constrain(0, 1, 2) = 1; constrain(0, 1, 2) = 1; constrain(0, 1, 2) = 1
            read every x:p(x);some y:q(y);r(x,y) -> 5 0
            readings() = 2; hasEdge(0, 1, 2) = false; release() = throws IllegalStateException
            constrain(0, 1, 3) = 1; release() = 2; release() = throws IllegalStateException
            == promise 4: and nothing is a fact
            read every x:p(x);q(x) -> 3 0
            setFact(0, 0, 0, true) = false; setFact(1, 1, 0, true) = false; truth(0) = false
            read every x:p(x);q(x) -> 3 0
            truth(0) = true; setFact(0, 0, 0, false) = false; setFact(1, 1, 0, false) = false
            == promise 4: If the text has an error, nothing is changed but the result of errorKind(), and the text stays.
            read every x:p(x);some y:q(y);r(x,y) -> 5 0
            setDomain(3) = 2; constrain(2, 1, 0) = 1; setFact(2, 2, 1, true) = false; fingerprint() = 30459355308912383
            text no x:p(x);some
            readSentence() = -15; errorKind() = 1; readSentence() = -15; clearText() = 14
            text no x:p(y);q(z)
            readSentence() = -6; errorKind() = 2; readSentence() = -6; clearText() = 14
            readSentence() = -1; errorKind() = 1
            # 2 3 0 1 4, class 0, not weak, not true, as before
            fragments() = 5; readings() = 1; predicates() = 3; hasEdge(2, 1, 0) = true
            fingerprint() = 30459355308912383
            setFact(2, 2, 1, true) = true; release() = 2; setDomain(3) = 3
            formula 0 = every x(p(x),some y(q(y),r(x,y)))
            == promise 4: the text stays, and can be completed
            text no x:p(x);
            readSentence() = -11; type(113) = 11; readSentence() = -12; type(40) = 12; readSentence() = -13
            type(120) = 13; readSentence() = -14; type(41) = 14; readSentence() = 3
            == promise 4: Returns the number of fragments
            read no x:p(x);q(x) -> 3 0
            read not;no x:p(x);q(x) -> 4 0
            read every u:abcde(u,v);every v:abcde(v,v);every w:abcde(w,w);every x:abcde(x,x);not;not;abcde(u,x) -> 11 0
            == promise 4: -1 minus the error position
            read  -> -1 1
            read ~ -> -1 1
            # the last position that an error can have: behind the longest sentence
            text every u:abcde(u,v);every v:abcde(v,v);every w:abcde(w,w);every x:abcde(x,x);not;not;abcde(u,x)
            type(59) = 95; readSentence() = -95
            type(59) = 96; type(59) = 97; type(59) = 98; type(59) = 99; type(59) = 100; readSentence() = -95
            clearText() = 100
            == promise 5: Returns 1 or 2; 0 if this text had no error, or there was none.
            errorKind() = 0; type(97) = 1; errorKind() = 0; readSentence() = -2; errorKind() = 1
            clearText() = 1; errorKind() = 1
            text q(x)
            errorKind() = 1; readSentence() = -3; errorKind() = 2; type(59) = 5; errorKind() = 2
            readSentence() = -5; errorKind() = 1; clearText() = 5
            text no x:p(x);q(x)
            errorKind() = 1; readSentence() = 3; errorKind() = 0; readSentence() = -1; errorKind() = 1
            """;

    private static final String[] SENTENCES = {
        "no x:p(x);q(x)",
        "every x:every(x,y);not;some y:abcde(y);most(x,y)",
        "every u:abcde(u,v);every v:abcde(v,v);every w:abcde(w,w);every x:abcde(x,x);not;not;abcde(u,x)",
    };

    public static void main(String[] args) {
        int wrong = Script.run("items", ITEMS) + Script.run("atoms", ATOMS) + Script.run("limits", LIMITS)
                + Script.run("errors", ERRORS) + Script.run("promises", PROMISES) + makeAllCalls();
        for (String sentence : SENTENCES) {
            wrong += cutAndSpoil(sentence);
        }
        Script.exit(wrong);
    }

    /** "..., or the length of the text if there is no such character": at each place of a sentence. */
    private static int cutAndSpoil(String sentence) {
        int wrong = 0;
        for (int length = 0; length < sentence.length(); length++) {
            String beginning = sentence.substring(0, length);
            wrong += Script.run("a cut sentence", "read " + beginning + " -> " + (-1 - length) + " 1");
            wrong += Script.run("a wrong character", "read " + beginning + "~ -> " + (-1 - length) + " 1");
        }
        for (char sign = ' '; sign <= '~'; sign++) {
            wrong += Script.run("one more", "read " + sentence + sign + " -> " + (-1 - sentence.length()) + " 1");
        }
        return wrong;
    }

    /** "An object is used for at most 512 calls": the last of them is answered as the first ones are. */
    private static int makeAllCalls() {
        StringBuilder calls = new StringBuilder("== What it is: at most 512 calls\n");
        for (int round = 0; round < 4; round++) {
            calls.append("text ").append("a".repeat(100)).append("\nclearText() = 100\n");
        }
        calls.append("text not;no u:a(u);no v:b(v);not;no w:c(w);no x:d(x);e(u)\n");
        calls.append("readSentence() = 11; readings() = 720; setFact(0, 1, 0, true) = false\n");
        int made = 4 * 101 + 52 + 3;
        for (int k = made; k < 510; k++) {
            calls.append("constrain(0, 0, 0) = ").append(k - made < 6 ? "0" : "throws IllegalStateException").append('\n');
        }
        return Script.run("512 calls", calls + "readings() = 0; setFact(0, 1, 0, true) = true");
    }
}
