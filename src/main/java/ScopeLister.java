import java.util.Arrays;

/**
 * A lister of scope readings: a sentence with several quantifiers and negations, read from text, is
 * an underspecified formula (a dominance graph), whose readings are all ways to plug its fragments
 * into one another.
 *
 * <p>All rows are made once, by the constructors, and used again by every call.
 */
public final class ScopeLister {
    private static final int NONE = -1;

    private static final int MAX_TEXT = 100;
    private static final int LOWEST_CODE = 32;
    private static final int HIGHEST_CODE = 126;

    private static final int MAX_QUANTIFIERS = 4;
    private static final int MAX_NEGATIONS = 2;
    private static final int MAX_NAME = 5;
    private static final int MAX_ITEMS = MAX_QUANTIFIERS + MAX_NEGATIONS + 1;
    private static final int MAX_LEAVES = MAX_QUANTIFIERS + 1;
    private static final int MAX_FRAGMENTS = 2 * MAX_QUANTIFIERS + MAX_NEGATIONS + 1;
    private static final int VARIABLES = 6;

    /** A hole has the number 2 * fragment + hole, so that a set of holes fits into an int. */
    private static final int MAX_HOLES = 2 * MAX_FRAGMENTS;

    private static final int MAX_CONSTRAINTS = 6;

    /** Most readings have sentences whose six operators all stand above the nucleus alone: 6!. */
    private static final int MAX_READINGS = 720;

    /** A quantifier or a negation has one sign more in a formula than its item has in the text. */
    private static final int MAX_FORMULA = MAX_TEXT + MAX_QUANTIFIERS + MAX_NEGATIONS;

    /** Neighbouring quantifiers in one reading: each of the four but the topmost one is the lower. */
    private static final int MAX_SWAPS = MAX_QUANTIFIERS - 1;

    private static final int SMALLEST_DOMAIN = 1;
    private static final int FIRST_DOMAIN = 2;
    private static final int LARGEST_DOMAIN = 3;

    private static final int LEAF = 0;
    private static final int EVERY = 1;
    private static final int SOME = 2;
    private static final int NO = 3;
    private static final int MOST = 4;
    private static final int NOT = 5;

    private static final int NO_ERROR = 0;
    private static final int ERROR_OF_FORM = 1;
    private static final int ERROR_OF_USE = 2;

    private static final int FINGERPRINT_START = 37;
    private static final int FINGERPRINT_FACTOR = 31;
    private static final int FINGERPRINT_READINGS = 50;

    private final int[] text = new int[MAX_TEXT];
    private int textLength;
    private int lastError;
    private final Sentence sentence = new Sentence();
    private final Sentence draft = new Sentence();
    private final SentenceParser parser = new SentenceParser(draft);
    private final DominanceGraph graph = new DominanceGraph(sentence);
    private final ReadingList list = new ReadingList();
    private final ReadingFinder finder = new ReadingFinder(sentence, graph, list);
    private final Layout layout = new Layout(sentence);
    private final Meaning meaning = new Meaning(sentence, list, layout);
    private final Model model = new Model(sentence, list, layout);
    private final FormulaWriter writer = new FormulaWriter(sentence, layout);

    public ScopeLister() {
        textLength = 0;
        lastError = NO_ERROR;
    }

    // ---- text, sentence

    public int type(int c) throws IllegalArgumentException, IllegalStateException {
        if (c < LOWEST_CODE || c > HIGHEST_CODE) {
            throw new IllegalArgumentException("the code is not from 32 to 126");
        }
        if (textLength >= MAX_TEXT) {
            throw new IllegalStateException("the text has 100 characters already");
        }
        text[textLength] = c;
        textLength++;
        return textLength;
    }

    public int clearText() {
        int length = textLength;
        textLength = 0;
        return length;
    }

    public int readSentence() {
        int wrongAt = parser.findErrorOfForm(text, textLength);
        if (wrongAt != NONE) {
            lastError = ERROR_OF_FORM;
            return -1 - wrongAt;
        }
        wrongAt = draft.findErrorOfUse();
        if (wrongAt != NONE) {
            lastError = ERROR_OF_USE;
            return -1 - wrongAt;
        }
        lastError = NO_ERROR;
        textLength = 0;
        sentence.takeOver(draft);
        graph.drawSentence();
        model.dropFacts();
        listReadings();
        return sentence.fragments;
    }

    public int errorKind() {
        return lastError;
    }

    public int fragments() {
        return sentence.fragments;
    }

    public int kindOf(int fragment) throws IndexOutOfBoundsException {
        needFragment(fragment);
        return sentence.kinds[fragment];
    }

    public boolean hasEdge(int fragment, int hole, int target) throws IndexOutOfBoundsException {
        needHole(fragment, hole);
        needFragment(target);
        return isIn(graph.targetsOf(2 * fragment + hole), target);
    }

    public int constrain(int fragment, int hole, int target)
            throws IndexOutOfBoundsException, IllegalStateException {
        needHole(fragment, hole);
        needFragment(target);
        if (graph.constraints >= MAX_CONSTRAINTS) {
            throw new IllegalStateException("there are 6 constraints already");
        }
        graph.addConstraint(2 * fragment + hole, target);
        listReadings();
        return list.count;
    }

    public int release() throws IllegalStateException {
        if (graph.constraints <= 0) {
            throw new IllegalStateException("there is no constraint");
        }
        graph.dropLastConstraint();
        listReadings();
        return list.count;
    }

    // ---- readings

    public int readings() throws IllegalStateException {
        needSentence();
        return list.count;
    }

    public int place(int reading, int k) throws IndexOutOfBoundsException {
        layOut(reading);
        if (k < 0 || k >= sentence.fragments) {
            throw new IndexOutOfBoundsException("there is no such place");
        }
        return layout.order[k];
    }

    public int plug(int reading, int fragment, int hole) throws IndexOutOfBoundsException {
        layOut(reading);
        needHole(fragment, hole);
        return layout.inHole[2 * fragment + hole];
    }

    public int above(int reading, int fragment) throws IndexOutOfBoundsException {
        layOut(reading);
        needFragment(fragment);
        return layout.parentOf(fragment);
    }

    public int polarity(int reading, int fragment) throws IndexOutOfBoundsException {
        layOut(reading);
        needFragment(fragment);
        return layout.polarities[fragment];
    }

    public int countBelow(int upper, int lower) throws IndexOutOfBoundsException {
        needFragment(upper);
        needFragment(lower);
        int found = 0;
        for (int reading = 0; reading < list.count; reading++) {
            layout.lay(list.orders[reading]);
            if (layout.isUnder(upper, lower)) {
                found++;
            }
        }
        return found;
    }

    public int nextBelow(int from, int upper, int lower) throws IndexOutOfBoundsException {
        needFragment(upper);
        needFragment(lower);
        needStart(from);
        for (int reading = from; reading < list.count; reading++) {
            layout.lay(list.orders[reading]);
            if (layout.isUnder(upper, lower)) {
                return reading;
            }
        }
        return NONE;
    }

    public int formulaChar(int reading, int k) throws IndexOutOfBoundsException {
        layOut(reading);
        if (k < 0) {
            throw new IndexOutOfBoundsException("the index of the character is negative");
        }
        writer.writeFormula();
        return k < writer.length ? writer.signs[k] : NONE;
    }

    // ---- meaning

    public boolean entails(int i, int j) throws IndexOutOfBoundsException {
        needReading(i);
        needReading(j);
        return meaning.leadsTo(i, j);
    }

    public int classOf(int reading) throws IndexOutOfBoundsException {
        needReading(reading);
        meaning.workOut();
        return meaning.classes[reading];
    }

    public int classes() throws IllegalStateException {
        needSentence();
        return meaning.countClasses(true);
    }

    public boolean isWeak(int reading) throws IndexOutOfBoundsException {
        needReading(reading);
        meaning.workOut();
        return meaning.weak[reading];
    }

    public int strongest() throws IllegalStateException {
        needSentence();
        return meaning.countClasses(false);
    }

    // ---- models

    public int setDomain(int n) throws IllegalArgumentException {
        if (n < SMALLEST_DOMAIN || n > LARGEST_DOMAIN) {
            throw new IllegalArgumentException("the size of the domain is not from 1 to 3");
        }
        int former = model.domain;
        model.domain = n;
        model.dropFacts();
        return former;
    }

    public int predicates() {
        return sentence.predicates;
    }

    public int arity(int predicate) throws IndexOutOfBoundsException {
        needPredicate(predicate);
        return sentence.arities[predicate];
    }

    public boolean setFact(int predicate, int a, int b, boolean fact)
            throws IndexOutOfBoundsException, IllegalArgumentException {
        needPredicate(predicate);
        int seconds = sentence.arities[predicate] == 1 ? 1 : model.domain;
        if (a < 0 || a >= model.domain || b < 0 || b >= seconds) {
            throw new IllegalArgumentException("an element is not as described");
        }
        return model.exchangeFact(predicate, a, b, fact);
    }

    public boolean truth(int reading) throws IndexOutOfBoundsException {
        needReading(reading);
        return model.isTrue(reading);
    }

    public int trueReadings() throws IllegalStateException {
        needSentence();
        int found = 0;
        for (int reading = 0; reading < list.count; reading++) {
            if (model.isTrue(reading)) {
                found++;
            }
        }
        return found;
    }

    public int nextDifferent(int from) throws IllegalStateException, IndexOutOfBoundsException {
        needSentence();
        needStart(from);
        for (int reading = from; reading < list.count; reading++) {
            if (model.isTrue(reading) != model.isTrue(0)) {
                return reading;
            }
        }
        return NONE;
    }

    public long fingerprint() {
        meaning.workOut();
        long print = FINGERPRINT_START;
        print = FINGERPRINT_FACTOR * print + sentence.fragments;
        print = FINGERPRINT_FACTOR * print + list.count;
        for (int reading = 0; reading < list.count && reading < FINGERPRINT_READINGS; reading++) {
            layout.lay(list.orders[reading]);
            for (int k = 0; k < sentence.fragments; k++) {
                print = FINGERPRINT_FACTOR * print + layout.order[k];
            }
            print = FINGERPRINT_FACTOR * print + meaning.classes[reading];
            print = FINGERPRINT_FACTOR * print + (meaning.weak[reading] ? 1 : 0);
            print = FINGERPRINT_FACTOR * print + (model.isTrue(reading) ? 1 : 0);
        }
        return print;
    }

    // ---- what several calls share

    private void listReadings() {
        finder.findReadings();
        meaning.forget();
        model.forgetTruths();
    }

    private void layOut(int reading) {
        needReading(reading);
        layout.lay(list.orders[reading]);
    }

    private void needSentence() {
        if (sentence.fragments == 0) {
            throw new IllegalStateException("there is no sentence");
        }
    }

    private void needFragment(int fragment) {
        if (fragment < 0 || fragment >= sentence.fragments) {
            throw new IndexOutOfBoundsException("there is no such fragment");
        }
    }

    private void needHole(int fragment, int hole) {
        needFragment(fragment);
        if (hole < 0 || hole >= sentence.holesOf(fragment)) {
            throw new IndexOutOfBoundsException("there is no such hole");
        }
    }

    private void needReading(int reading) {
        if (reading < 0 || reading >= list.count) {
            throw new IndexOutOfBoundsException("there is no such reading");
        }
    }

    private void needPredicate(int predicate) {
        if (predicate < 0 || predicate >= sentence.predicates) {
            throw new IndexOutOfBoundsException("there is no such predicate");
        }
    }

    private void needStart(int from) {
        if (from < 0) {
            throw new IndexOutOfBoundsException("the number to start from is negative");
        }
    }

    /** Sets of fragments are ints, with a bit for each fragment. */
    private static boolean isIn(int set, int fragment) {
        return (set >> fragment & 1) != 0;
    }

    private static String wordOf(int kind) {
        switch (kind) {
            case EVERY:
                return "every";
            case SOME:
                return "some";
            case NO:
                return "no";
            case MOST:
                return "most";
            case NOT:
                return "not";
            default:
                return "";
        }
    }

    /** The fragments of a text, in the order of its items; without any there is no sentence. */
    private static final class Sentence {
        private final int[] text = new int[MAX_TEXT];
        private int fragments;
        private final int[] kinds = new int[MAX_FRAGMENTS];

        // Of quantifiers.
        private final int[] variables = new int[MAX_FRAGMENTS];
        private final int[] variableAt = new int[MAX_FRAGMENTS];

        // Of leaves; an end is the index behind the last character.
        private final int[] nameAt = new int[MAX_FRAGMENTS];
        private final int[] nameEnd = new int[MAX_FRAGMENTS];
        private final int[] atomEnd = new int[MAX_FRAGMENTS];
        private final int[] firstArgument = new int[MAX_FRAGMENTS];
        private final int[] secondArgument = new int[MAX_FRAGMENTS];
        private final int[] predicateOf = new int[MAX_FRAGMENTS];

        private int predicates;
        private final int[] arities = new int[MAX_LEAVES];
        private final int[] firstLeaf = new int[MAX_LEAVES];

        private void startOver(int[] newText, int length) {
            System.arraycopy(newText, 0, text, 0, length);
            fragments = 0;
            predicates = 0;
        }

        private void takeOver(Sentence other) {
            System.arraycopy(other.text, 0, text, 0, MAX_TEXT);
            fragments = other.fragments;
            predicates = other.predicates;
            copyRow(other.kinds, kinds);
            copyRow(other.variables, variables);
            copyRow(other.variableAt, variableAt);
            copyRow(other.nameAt, nameAt);
            copyRow(other.nameEnd, nameEnd);
            copyRow(other.atomEnd, atomEnd);
            copyRow(other.firstArgument, firstArgument);
            copyRow(other.secondArgument, secondArgument);
            copyRow(other.predicateOf, predicateOf);
            System.arraycopy(other.arities, 0, arities, 0, MAX_LEAVES);
            System.arraycopy(other.firstLeaf, 0, firstLeaf, 0, MAX_LEAVES);
        }

        private static void copyRow(int[] from, int[] to) {
            System.arraycopy(from, 0, to, 0, MAX_FRAGMENTS);
        }

        private void addQuantifier(int kind, int at) {
            if (fragments < MAX_FRAGMENTS) {
                kinds[fragments] = kind;
                variables[fragments] = variableIn(at);
                variableAt[fragments] = at;
                fragments++;
            }
        }

        private void addNegation() {
            if (fragments < MAX_FRAGMENTS) {
                kinds[fragments] = NOT;
                fragments++;
            }
        }

        private void addLeaf(int at, int behindName, int behindAtom) {
            if (fragments < MAX_FRAGMENTS) {
                boolean isPair = behindAtom - behindName > "(x)".length();
                kinds[fragments] = LEAF;
                nameAt[fragments] = at;
                nameEnd[fragments] = behindName;
                atomEnd[fragments] = behindAtom;
                firstArgument[fragments] = variableIn(behindName + 1);
                secondArgument[fragments] = isPair ? variableIn(behindName + 3) : NONE;
                predicateOf[fragments] = predicateNamedBy(fragments);
                fragments++;
            }
        }

        private int variableIn(int at) {
            return text[at] - 'u';
        }

        private int predicateNamedBy(int leaf) {
            for (int predicate = 0; predicate < predicates; predicate++) {
                if (haveSameName(firstLeaf[predicate], leaf)) {
                    return predicate;
                }
            }
            if (predicates < MAX_LEAVES) {
                arities[predicates] = argumentsOf(leaf);
                firstLeaf[predicates] = leaf;
                predicates++;
            }
            return predicates - 1;
        }

        private boolean haveSameName(int leaf, int other) {
            int length = nameEnd[leaf] - nameAt[leaf];
            if (length != nameEnd[other] - nameAt[other]) {
                return false;
            }
            for (int k = 0; k < length; k++) {
                if (text[nameAt[leaf] + k] != text[nameAt[other] + k]) {
                    return false;
                }
            }
            return true;
        }

        private int argumentsOf(int leaf) {
            return secondArgument[leaf] == NONE ? 1 : 2;
        }

        private int holesOf(int fragment) {
            switch (kinds[fragment]) {
                case LEAF:
                    return 0;
                case NOT:
                    return 1;
                default:
                    return 2;
            }
        }

        private boolean isQuantifier(int fragment) {
            return holesOf(fragment) == 2;
        }

        private boolean contains(int leaf, int variable) {
            return firstArgument[leaf] == variable || secondArgument[leaf] == variable;
        }

        /** The quantifier whose restriction a leaf is; NONE for the nucleus. */
        private int ownerOf(int leaf) {
            return leaf > 0 && isQuantifier(leaf - 1) ? leaf - 1 : NONE;
        }

        /** The first quantifier of a variable among the fragments before a given one, or NONE. */
        private int quantifierOf(int variable, int before) {
            for (int fragment = 0; fragment < before; fragment++) {
                if (isQuantifier(fragment) && variables[fragment] == variable) {
                    return fragment;
                }
            }
            return NONE;
        }

        /** The fragments stand as in the text, so the first error found has the least index. */
        private int findErrorOfUse() {
            for (int fragment = 0; fragment < fragments; fragment++) {
                int at = NONE;
                if (isQuantifier(fragment)) {
                    at = errorInQuantifier(fragment);
                } else if (kinds[fragment] == LEAF) {
                    at = errorInLeaf(fragment);
                }
                if (at != NONE) {
                    return at;
                }
            }
            return NONE;
        }

        private int errorInQuantifier(int quantifier) {
            boolean isRepeated = quantifierOf(variables[quantifier], quantifier) != NONE;
            return isRepeated ? variableAt[quantifier] : NONE;
        }

        private int errorInLeaf(int leaf) {
            int owner = ownerOf(leaf);
            if (owner != NONE && !contains(leaf, variables[owner])) {
                return nameAt[leaf];
            }
            if (arities[predicateOf[leaf]] != argumentsOf(leaf)) {
                return nameAt[leaf];
            }
            if (quantifierOf(firstArgument[leaf], fragments) == NONE) {
                return nameEnd[leaf] + 1;
            }
            if (argumentsOf(leaf) == 2 && quantifierOf(secondArgument[leaf], fragments) == NONE) {
                return nameEnd[leaf] + 3;
            }
            return NONE;
        }
    }

    /** Reads the form of a text; it stands still at the first character that does not fit. */
    private static final class SentenceParser {
        private static final int ITEM_IS_WRONG = 0;
        private static final int ITEM_GOES_ON = 1;
        private static final int ITEM_IS_LAST = 2;

        private final Sentence draft;
        private int length;
        private int at;
        private int quantifiers;
        private int negations;

        private SentenceParser(Sentence draft) {
            this.draft = draft;
        }

        private int findErrorOfForm(int[] text, int textLength) {
            draft.startOver(text, textLength);
            length = textLength;
            at = 0;
            quantifiers = 0;
            negations = 0;
            for (int item = 0; item < MAX_ITEMS; item++) {
                int outcome = takeItem();
                if (outcome == ITEM_IS_WRONG) {
                    return at;
                }
                if (outcome == ITEM_IS_LAST) {
                    return NONE;
                }
            }
            return at;
        }

        /** A word with "(" behind it is a name, so only the sign behind a word tells the item. */
        private int takeItem() {
            int wordAt = at;
            if (!takeName()) {
                return ITEM_IS_WRONG;
            }
            if (sign() == '(') {
                return takeArguments(wordAt) && at == length ? ITEM_IS_LAST : ITEM_IS_WRONG;
            }
            int kind = kindOfWord(wordAt);
            if (kind == LEAF) {
                return ITEM_IS_WRONG;
            }
            boolean isTaken = kind == NOT ? takeNegation() : takeQuantifier(kind);
            return isTaken ? ITEM_GOES_ON : ITEM_IS_WRONG;
        }

        private boolean takeNegation() {
            if (negations >= MAX_NEGATIONS || !takeSign(';')) {
                return false;
            }
            negations++;
            draft.addNegation();
            return true;
        }

        private boolean takeQuantifier(int kind) {
            if (quantifiers >= MAX_QUANTIFIERS || !takeSign(' ')) {
                return false;
            }
            int variableAt = at;
            if (!takeVariable() || !takeSign(':')) {
                return false;
            }
            quantifiers++;
            draft.addQuantifier(kind, variableAt);
            int nameAt = at;
            return takeName() && takeArguments(nameAt) && takeSign(';');
        }

        private boolean takeArguments(int nameAt) {
            int nameEnd = at;
            if (!takeSign('(') || !takeVariable()) {
                return false;
            }
            if (takeSign(',') && !takeVariable()) {
                return false;
            }
            if (!takeSign(')')) {
                return false;
            }
            draft.addLeaf(nameAt, nameEnd, at);
            return true;
        }

        private boolean takeName() {
            int start = at;
            for (int k = 0; k < MAX_NAME && isFrom('a', sign()); k++) {
                at++;
            }
            return at > start;
        }

        private boolean takeVariable() {
            if (!isFrom('u', sign())) {
                return false;
            }
            at++;
            return true;
        }

        private boolean takeSign(char wanted) {
            if (sign() != wanted) {
                return false;
            }
            at++;
            return true;
        }

        /** The sign that is next; NONE behind the text. */
        private int sign() {
            return at < length ? draft.text[at] : NONE;
        }

        private static boolean isFrom(char first, int sign) {
            return sign >= first && sign <= 'z';
        }

        /** The kind of the word that ends where the parser is; LEAF if it is none of the words. */
        private int kindOfWord(int wordAt) {
            for (int kind = EVERY; kind <= NOT; kind++) {
                if (isWord(wordOf(kind), wordAt)) {
                    return kind;
                }
            }
            return LEAF;
        }

        private boolean isWord(String word, int wordAt) {
            if (word.length() != at - wordAt) {
                return false;
            }
            for (int k = 0; k < word.length(); k++) {
                if (draft.text[wordAt + k] != word.charAt(k)) {
                    return false;
                }
            }
            return true;
        }
    }

    /** The edges of the sentence and the constraints, with what follows from them. */
    private static final class DominanceGraph {
        private final Sentence sentence;
        private final int[] sentenceTargets = new int[MAX_HOLES];
        private int constraints;
        private final int[] constraintHoles = new int[MAX_CONSTRAINTS];
        private final int[] constraintTargets = new int[MAX_CONSTRAINTS];

        /** For each hole the set of fragments that have to be in it or below. */
        private final int[] wanted = new int[MAX_HOLES];

        /** For each fragment the set of holes in which, or below which, it has to be. */
        private final int[] demands = new int[MAX_FRAGMENTS];

        private DominanceGraph(Sentence sentence) {
            this.sentence = sentence;
        }

        private void drawSentence() {
            Arrays.fill(sentenceTargets, 0);
            constraints = 0;
            int nucleus = 1 << (sentence.fragments - 1);
            for (int fragment = 0; fragment < sentence.fragments; fragment++) {
                if (sentence.isQuantifier(fragment)) {
                    int scope = leavesOf(sentence.variables[fragment], fragment + 1);
                    sentenceTargets[2 * fragment] = 1 << (fragment + 1);
                    sentenceTargets[2 * fragment + 1] = scope == 0 ? nucleus : scope;
                } else if (sentence.kinds[fragment] == NOT) {
                    sentenceTargets[2 * fragment] = nucleus;
                }
            }
        }

        private int leavesOf(int variable, int restriction) {
            int leaves = 0;
            for (int leaf = 0; leaf < sentence.fragments; leaf++) {
                boolean isOther = sentence.kinds[leaf] == LEAF && leaf != restriction;
                if (isOther && sentence.contains(leaf, variable)) {
                    leaves |= 1 << leaf;
                }
            }
            return leaves;
        }

        private void addConstraint(int hole, int target) {
            if (constraints < MAX_CONSTRAINTS) {
                constraintHoles[constraints] = hole;
                constraintTargets[constraints] = target;
                constraints++;
            }
        }

        private void dropLastConstraint() {
            if (constraints > 0) {
                constraints--;
            }
        }

        /** The set of fragments to which edges lead from a hole. */
        private int targetsOf(int hole) {
            int targets = sentenceTargets[hole];
            for (int k = 0; k < constraints; k++) {
                if (constraintHoles[k] == hole) {
                    targets |= 1 << constraintTargets[k];
                }
            }
            return targets;
        }

        private int wantedUnder(int fragment) {
            return wanted[2 * fragment] | wanted[2 * fragment + 1];
        }

        /**
         * What is wanted under a fragment is wanted wherever this fragment is: with these edges
         * drawn, too, the finder sees dead ends early, and the readings are the same.
         */
        private void drawConclusions() {
            int holes = 2 * sentence.fragments;
            for (int hole = 0; hole < holes; hole++) {
                wanted[hole] = targetsOf(hole);
            }
            for (int middle = 0; middle < sentence.fragments; middle++) {
                for (int hole = 0; hole < holes; hole++) {
                    if (isIn(wanted[hole], middle)) {
                        wanted[hole] |= wantedUnder(middle);
                    }
                }
            }
            for (int fragment = 0; fragment < sentence.fragments; fragment++) {
                demands[fragment] = holesThatWant(fragment, holes);
            }
        }

        private int holesThatWant(int fragment, int holes) {
            int found = 0;
            for (int hole = 0; hole < holes; hole++) {
                if (isIn(wanted[hole], fragment)) {
                    found |= 1 << hole;
                }
            }
            return found;
        }

        /** A fragment that wants itself, or the same in both holes, can stand nowhere. */
        private boolean contradictsItself() {
            for (int fragment = 0; fragment < sentence.fragments; fragment++) {
                boolean wantsItself = isIn(wantedUnder(fragment), fragment);
                if (wantsItself || (wanted[2 * fragment] & wanted[2 * fragment + 1]) != 0) {
                    return true;
                }
            }
            return false;
        }
    }

    /**
     * The readings, each by its order alone (the holes of the fragments make it clear what is where),
     * four bits a fragment, so that readings are sorted as their numbers are.
     */
    private static final class ReadingList {
        private static final int BITS = 4;
        private static final int MASK = 15;
        private static final int MAX_HALVINGS = 12;

        private final long[] orders = new long[MAX_READINGS];
        private int count;

        private void append(long order) {
            if (count < MAX_READINGS) {
                orders[count] = order;
                count++;
            }
        }

        private static long extend(long order, int fragment) {
            return (order << BITS) | fragment;
        }

        /** The number of the reading with this order; NONE if this is no reading. */
        private int find(long order) {
            int low = 0;
            int high = count - 1;
            for (int halving = 0; halving < MAX_HALVINGS && low <= high; halving++) {
                int middle = (low + high) / 2;
                if (orders[middle] == order) {
                    return middle;
                }
                if (orders[middle] < order) {
                    low = middle + 1;
                } else {
                    high = middle - 1;
                }
            }
            return NONE;
        }
    }

    /** Finds the readings in their order, by writing the orders from the root on. */
    private static final class ReadingFinder {
        private final Sentence sentence;
        private final DominanceGraph graph;
        private final ReadingList list;

        /** For each hole that waits for a fragment, the last one first: it and all holes it is in. */
        private final int[] paths = new int[MAX_FRAGMENTS + 1];

        private ReadingFinder(Sentence sentence, DominanceGraph graph, ReadingList list) {
            this.sentence = sentence;
            this.graph = graph;
            this.list = list;
        }

        private void findReadings() {
            list.count = 0;
            graph.drawConclusions();
            if (!graph.contradictsItself()) {
                paths[0] = 0;
                fillNext(0, 1, 0L, 0, 0);
            }
        }

        /** Fills the last hole that waits; used are fragments, opened are the holes of these. */
        private void fillNext(int depth, int waiting, long order, int used, int opened) {
            if (depth >= sentence.fragments) {
                list.append(order);
                return;
            }
            if (waiting <= 0 || waiting > paths.length) {
                return;
            }
            int path = paths[waiting - 1];
            int welcome = welcomeUnder(path, used, opened);
            int closing = path & ~(waiting > 1 ? paths[waiting - 2] : 0);
            int missing = missingIn(closing, used);
            for (int fragment = 0; fragment < sentence.fragments; fragment++) {
                boolean mayStand = isIn(welcome, fragment) && (graph.demands[fragment] & ~path) == 0;
                if (mayStand && leavesNoneOut(fragment, welcome, missing)) {
                    int nowWaiting = openHoles(fragment, path, waiting - 1);
                    int nowOpened = opened | holesIn(fragment);
                    long extended = ReadingList.extend(order, fragment);
                    fillNext(depth + 1, nowWaiting, extended, used | (1 << fragment), nowOpened);
                    paths[waiting - 1] = path;
                }
            }
        }

        /** A leaf closes holes, which then miss nothing; others open holes for all that they want. */
        private boolean leavesNoneOut(int fragment, int welcome, int missing) {
            if (sentence.kinds[fragment] == LEAF) {
                return (missing & ~(1 << fragment)) == 0;
            }
            return (graph.wantedUnder(fragment) & ~welcome) == 0;
        }

        /** The unused fragments that no opened hole outside of a path wants. */
        private int welcomeUnder(int path, int used, int opened) {
            int elsewhere = opened & ~path;
            int found = 0;
            for (int fragment = 0; fragment < sentence.fragments; fragment++) {
                if (!isIn(used, fragment) && (graph.demands[fragment] & elsewhere) == 0) {
                    found |= 1 << fragment;
                }
            }
            return found;
        }

        /** The unused fragments without which the holes that a leaf would close can't be closed. */
        private int missingIn(int closing, int used) {
            int found = 0;
            for (int fragment = 0; fragment < sentence.fragments; fragment++) {
                if (!isIn(used, fragment) && (graph.demands[fragment] & closing) != 0) {
                    found |= 1 << fragment;
                }
            }
            return found;
        }

        private int holesIn(int fragment) {
            int all = (1 << sentence.holesOf(fragment)) - 1;
            return all << (2 * fragment);
        }

        /** Hole 0 comes last, because it is filled first. */
        private int openHoles(int fragment, int path, int waiting) {
            int now = waiting;
            for (int hole = sentence.holesOf(fragment) - 1; hole >= 0; hole--) {
                if (now >= 0 && now < paths.length) {
                    paths[now] = path | (1 << (2 * fragment + hole));
                    now++;
                }
            }
            return now;
        }
    }

    /** One reading, laid out as a tree. */
    private static final class Layout {
        private final Sentence sentence;
        private final int[] order = new int[MAX_FRAGMENTS];
        private final int[] placeOf = new int[MAX_FRAGMENTS];
        private final int[] holeAround = new int[MAX_FRAGMENTS];
        private final int[] polarities = new int[MAX_FRAGMENTS];
        private final int[] inHole = new int[MAX_HOLES];
        private final int[] waitingHoles = new int[MAX_FRAGMENTS + 1];

        private Layout(Sentence sentence) {
            this.sentence = sentence;
        }

        private void lay(long code) {
            int count = sentence.fragments;
            int waiting = 0;
            for (int k = 0; k < count; k++) {
                int shift = ReadingList.BITS * (count - 1 - k);
                int fragment = (int) (code >> shift) & ReadingList.MASK;
                if (fragment >= count) {
                    return;
                }
                order[k] = fragment;
                placeOf[fragment] = k;
                if (waiting > 0) {
                    waiting--;
                    putIn(waitingHoles[waiting], fragment);
                } else {
                    holeAround[fragment] = NONE;
                    polarities[fragment] = 1;
                }
                for (int hole = sentence.holesOf(fragment) - 1; hole >= 0; hole--) {
                    if (waiting < waitingHoles.length) {
                        waitingHoles[waiting] = 2 * fragment + hole;
                        waiting++;
                    }
                }
            }
        }

        private void putIn(int hole, int fragment) {
            inHole[hole] = fragment;
            holeAround[fragment] = hole;
            polarities[fragment] = polarityIn(hole);
        }

        private int polarityIn(int hole) {
            int kind = sentence.kinds[hole / 2];
            boolean isFirst = hole % 2 == 0;
            if (kind == MOST && isFirst) {
                return 0;
            }
            boolean isTurned = kind == NOT || kind == NO || (kind == EVERY && isFirst);
            int outside = polarities[hole / 2];
            return isTurned ? -outside : outside;
        }

        private int parentOf(int fragment) {
            return holeAround[fragment] == NONE ? NONE : holeAround[fragment] / 2;
        }

        private boolean isUnder(int upper, int lower) {
            int fragment = parentOf(lower);
            for (int level = 0; level < MAX_FRAGMENTS && fragment != NONE; level++) {
                if (fragment == upper) {
                    return true;
                }
                fragment = parentOf(fragment);
            }
            return false;
        }

        /**
         * The order after the swap of two quantifiers, the lower one in hole 1 of the upper one:
         * each of them moves together with what is in its hole 0, and the rest stays.
         */
        private long orderAfterSwap(int upper, int lower) {
            int start = placeOf[upper];
            int middle = placeOf[lower];
            int end = placeOf[inHole[2 * lower + 1]];
            long swapped = extendBy(0L, 0, start);
            swapped = extendBy(swapped, middle, end);
            swapped = extendBy(swapped, start, middle);
            return extendBy(swapped, end, sentence.fragments);
        }

        private long extendBy(long code, int from, int to) {
            long extended = code;
            for (int k = from; k < to; k++) {
                extended = ReadingList.extend(extended, order[k]);
            }
            return extended;
        }
    }

    /** Steps between readings, and what follows from them; worked out when first asked for. */
    private static final class Meaning {
        private final Sentence sentence;
        private final ReadingList list;
        private final Layout layout;
        private boolean isWorkedOut;

        /** MAX_SWAPS places a reading: those to which, and from which, a step leads, or NONE. */
        private final int[] stepsTo = new int[MAX_READINGS * MAX_SWAPS];
        private final int[] stepsFrom = new int[MAX_READINGS * MAX_SWAPS];

        private final int[] classes = new int[MAX_READINGS];
        private final boolean[] weak = new boolean[MAX_READINGS];

        // A reading is marked if it bears the number of the search that is going on.
        private final int[] entailedMarks = new int[MAX_READINGS];
        private final int[] entailingMarks = new int[MAX_READINGS];
        private final int[] queue = new int[MAX_READINGS];
        private int search;

        private Meaning(Sentence sentence, ReadingList list, Layout layout) {
            this.sentence = sentence;
            this.list = list;
            this.layout = layout;
        }

        private void forget() {
            isWorkedOut = false;
        }

        private void workOut() {
            if (isWorkedOut) {
                return;
            }
            isWorkedOut = true;
            Arrays.fill(stepsTo, NONE);
            Arrays.fill(stepsFrom, NONE);
            Arrays.fill(classes, NONE);
            for (int reading = 0; reading < list.count; reading++) {
                findSteps(reading);
            }
            for (int reading = 0; reading < list.count; reading++) {
                if (classes[reading] == NONE) {
                    formClass(reading);
                }
            }
        }

        private void findSteps(int reading) {
            layout.lay(list.orders[reading]);
            int swaps = 0;
            for (int upper = 0; upper < sentence.fragments; upper++) {
                if (isEveryOrSome(upper) && swaps < MAX_SWAPS) {
                    int lower = layout.inHole[2 * upper + 1];
                    if (isEveryOrSome(lower)) {
                        noteSwap(MAX_SWAPS * reading + swaps, upper, lower);
                        swaps++;
                    }
                }
            }
        }

        private boolean isEveryOrSome(int fragment) {
            return sentence.kinds[fragment] == EVERY || sentence.kinds[fragment] == SOME;
        }

        /** The place of the upper one keeps its polarity, so the step back is judged here, too. */
        private void noteSwap(int at, int upper, int lower) {
            int other = list.find(layout.orderAfterSwap(upper, lower));
            int polarity = layout.polarities[upper];
            int kind = sentence.kinds[upper];
            int otherKind = sentence.kinds[lower];
            if (kind == otherKind || isStrongOnTop(kind, polarity)) {
                stepsTo[at] = other;
            }
            if (kind == otherKind || isStrongOnTop(otherKind, polarity)) {
                stepsFrom[at] = other;
            }
        }

        private static boolean isStrongOnTop(int kind, int polarity) {
            return (polarity == 1 && kind == SOME) || (polarity == -1 && kind == EVERY);
        }

        /** The first reading of a class that is met is the least one of it. */
        private void formClass(int least) {
            search++;
            spread(least, stepsTo, entailedMarks);
            int entailing = spread(least, stepsFrom, entailingMarks);
            boolean isWeakClass = false;
            for (int k = 0; k < entailing; k++) {
                if (entailedMarks[queue[k]] == search) {
                    classes[queue[k]] = least;
                } else {
                    isWeakClass = true;
                }
            }
            for (int k = 0; k < entailing; k++) {
                if (entailedMarks[queue[k]] == search) {
                    weak[queue[k]] = isWeakClass;
                }
            }
        }

        /** Marks a reading and all that steps lead to from it; they are in the queue then. */
        private int spread(int start, int[] steps, int[] marks) {
            int count = 1;
            queue[0] = start;
            marks[start] = search;
            for (int head = 0; head < count && head < MAX_READINGS; head++) {
                for (int k = 0; k < MAX_SWAPS; k++) {
                    int next = steps[MAX_SWAPS * queue[head] + k];
                    if (next != NONE && marks[next] != search && count < MAX_READINGS) {
                        marks[next] = search;
                        queue[count] = next;
                        count++;
                    }
                }
            }
            return count;
        }

        private boolean leadsTo(int reading, int other) {
            workOut();
            search++;
            spread(reading, stepsTo, entailedMarks);
            return entailedMarks[other] == search;
        }

        private int countClasses(boolean withWeak) {
            workOut();
            int found = 0;
            for (int reading = 0; reading < list.count; reading++) {
                if (classes[reading] == reading && (withWeak || !weak[reading])) {
                    found++;
                }
            }
            return found;
        }
    }

    /** A small model; the truth of a reading is kept until something changes. */
    private static final class Model {
        private static final int FACTS_OF_ELEMENT = LARGEST_DOMAIN;
        private static final int FACTS_OF_PREDICATE = LARGEST_DOMAIN * LARGEST_DOMAIN;
        private static final int UNKNOWN = 0;
        private static final int FALSE = 1;
        private static final int TRUE = 2;

        private final Sentence sentence;
        private final ReadingList list;
        private final Layout layout;
        private int domain;
        private final boolean[] facts = new boolean[MAX_LEAVES * FACTS_OF_PREDICATE];
        private final int[] values = new int[VARIABLES];
        private final int[] truths = new int[MAX_READINGS];

        private Model(Sentence sentence, ReadingList list, Layout layout) {
            this.sentence = sentence;
            this.list = list;
            this.layout = layout;
            this.domain = FIRST_DOMAIN;
        }

        private void forgetTruths() {
            Arrays.fill(truths, UNKNOWN);
        }

        private void dropFacts() {
            for (int k = 0; k < facts.length; k++) {
                facts[k] = false;
            }
            forgetTruths();
        }

        private static int indexOfFact(int predicate, int a, int b) {
            return FACTS_OF_PREDICATE * predicate + FACTS_OF_ELEMENT * a + b;
        }

        private boolean exchangeFact(int predicate, int a, int b, boolean fact) {
            int index = indexOfFact(predicate, a, b);
            boolean former = facts[index];
            if (fact != former) {
                facts[index] = fact;
                forgetTruths();
            }
            return former;
        }

        private boolean isTrue(int reading) {
            if (truths[reading] == UNKNOWN) {
                layout.lay(list.orders[reading]);
                truths[reading] = holds(layout.order[0], 0) ? TRUE : FALSE;
            }
            return truths[reading] == TRUE;
        }

        private boolean holds(int fragment, int depth) {
            if (depth >= MAX_FRAGMENTS) {
                return false;
            }
            switch (sentence.kinds[fragment]) {
                case LEAF:
                    return atomHolds(fragment);
                case NOT:
                    return !holds(layout.inHole[2 * fragment], depth + 1);
                default:
                    return quantifierHolds(fragment, depth);
            }
        }

        private boolean atomHolds(int leaf) {
            int a = values[sentence.firstArgument[leaf]];
            int second = sentence.secondArgument[leaf];
            int b = second == NONE ? 0 : values[second];
            return facts[indexOfFact(sentence.predicateOf[leaf], a, b)];
        }

        private boolean quantifierHolds(int quantifier, int depth) {
            int variable = sentence.variables[quantifier];
            int restricted = 0;
            int inScope = 0;
            for (int element = 0; element < domain; element++) {
                values[variable] = element;
                if (holds(layout.inHole[2 * quantifier], depth + 1)) {
                    restricted++;
                    if (holds(layout.inHole[2 * quantifier + 1], depth + 1)) {
                        inScope++;
                    }
                }
            }
            values[variable] = 0;
            return isEnough(sentence.kinds[quantifier], restricted, inScope);
        }

        private static boolean isEnough(int kind, int restricted, int inScope) {
            switch (kind) {
                case EVERY:
                    return inScope == restricted;
                case SOME:
                    return inScope > 0;
                case NO:
                    return inScope == 0;
                default:
                    return 2 * inScope > restricted;
            }
        }
    }

    /** Writes the formula of the reading that is laid out. */
    private static final class FormulaWriter {
        private final Sentence sentence;
        private final Layout layout;
        private final int[] signs = new int[MAX_FORMULA];
        private int length;

        private FormulaWriter(Sentence sentence, Layout layout) {
            this.sentence = sentence;
            this.layout = layout;
        }

        private void writeFormula() {
            length = 0;
            writeFragment(layout.order[0], 0);
        }

        private void writeFragment(int fragment, int depth) {
            if (depth >= MAX_FRAGMENTS) {
                return;
            }
            int holes = sentence.holesOf(fragment);
            if (holes == 0) {
                writeAtom(fragment);
                return;
            }
            writeWord(wordOf(sentence.kinds[fragment]));
            if (holes == 2) {
                writeSign(' ');
                writeSign('u' + sentence.variables[fragment]);
            }
            writeSign('(');
            writeFragment(layout.inHole[2 * fragment], depth + 1);
            if (holes == 2) {
                writeSign(',');
                writeFragment(layout.inHole[2 * fragment + 1], depth + 1);
            }
            writeSign(')');
        }

        private void writeAtom(int leaf) {
            for (int at = sentence.nameAt[leaf]; at < sentence.atomEnd[leaf]; at++) {
                writeSign(sentence.text[at]);
            }
        }

        private void writeWord(String word) {
            for (int k = 0; k < word.length(); k++) {
                writeSign(word.charAt(k));
            }
        }

        private void writeSign(int sign) {
            if (length < MAX_FORMULA) {
                signs[length] = sign;
                length++;
            }
        }
    }
}
