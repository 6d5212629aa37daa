import java.util.ArrayDeque;
import java.util.ArrayList;
import java.util.Arrays;
import java.util.Collections;
import java.util.HashMap;
import java.util.HashSet;
import java.util.List;
import java.util.Map;
import java.util.Set;
import java.util.TreeMap;
import java.util.TreeSet;

/**
 * A second lister, with lists, maps and sets, as near to the words of the document as can be and by
 * other ways than the class: the form of a text is a set of templates, readings are split into sets
 * of fragments, and entailment is a closed table.
 */
public final class PlainLister {
    private static final List<String> WORDS = List.of("", "every", "some", "no", "most", "not");

    private String text = "";
    private int errorKind = 0;
    private Parsed sentence = null;
    private final List<int[]> constraints = new ArrayList<>();
    private List<List<Integer>> orders = new ArrayList<>();
    private boolean[][] entailments = new boolean[0][0];
    private int domain = 2;
    private final Set<String> facts = new HashSet<>();

    /** What the items of a text say. */
    private static final class Parsed {
        final List<Integer> kinds = new ArrayList<>();
        final List<String> atoms = new ArrayList<>();
        final List<Character> variables = new ArrayList<>();
        final Map<String, Integer> arities = new HashMap<>();
        final List<String> names = new ArrayList<>();
        int misuse = Integer.MAX_VALUE;

        int size() {
            return kinds.size();
        }

        int holes(int fragment) {
            int kind = kinds.get(fragment);
            return kind == 0 ? 0 : kind == 5 ? 1 : 2;
        }
    }

    public int type(int c) {
        if (c < 32 || c > 126) {
            throw new IllegalArgumentException();
        }
        if (text.length() == 100) {
            throw new IllegalStateException();
        }
        text += (char) c;
        return text.length();
    }

    public int clearText() {
        int length = text.length();
        text = "";
        return length;
    }

    public int readSentence() {
        int at = errorOfForm(text);
        if (at >= 0) {
            errorKind = 1;
            return -1 - at;
        }
        Parsed parsed = parse(text);
        if (parsed.misuse < Integer.MAX_VALUE) {
            errorKind = 2;
            return -1 - parsed.misuse;
        }
        errorKind = 0;
        text = "";
        sentence = parsed;
        constraints.clear();
        facts.clear();
        listReadings();
        return sentence.size();
    }

    public int errorKind() {
        return errorKind;
    }

    public int fragments() {
        return sentence == null ? 0 : sentence.size();
    }

    public int kindOf(int fragment) {
        checkFragment(fragment);
        return sentence.kinds.get(fragment);
    }

    public boolean hasEdge(int fragment, int hole, int target) {
        checkHole(fragment, hole);
        checkFragment(target);
        return targets(fragment, hole).contains(target);
    }

    public int constrain(int fragment, int hole, int target) {
        checkHole(fragment, hole);
        checkFragment(target);
        if (constraints.size() == 6) {
            throw new IllegalStateException();
        }
        constraints.add(new int[] {fragment, hole, target});
        listReadings();
        return orders.size();
    }

    public int release() {
        if (constraints.isEmpty()) {
            throw new IllegalStateException();
        }
        constraints.remove(constraints.size() - 1);
        listReadings();
        return orders.size();
    }

    public int readings() {
        checkSentence();
        return orders.size();
    }

    public int place(int reading, int k) {
        checkReading(reading);
        checkFragment(k);
        return orders.get(reading).get(k);
    }

    public int plug(int reading, int fragment, int hole) {
        checkReading(reading);
        checkHole(fragment, hole);
        return tree(orders.get(reading)).get(fragment).get(hole);
    }

    public int above(int reading, int fragment) {
        checkReading(reading);
        checkFragment(fragment);
        return upper(tree(orders.get(reading)), fragment)[0];
    }

    public int polarity(int reading, int fragment) {
        checkReading(reading);
        checkFragment(fragment);
        return polarityIn(tree(orders.get(reading)), fragment);
    }

    public int countBelow(int upper, int lower) {
        checkFragment(upper);
        checkFragment(lower);
        int count = 0;
        for (List<Integer> order : orders) {
            count += isBelow(tree(order), upper, lower) ? 1 : 0;
        }
        return count;
    }

    public int nextBelow(int from, int upper, int lower) {
        checkFragment(upper);
        checkFragment(lower);
        if (from < 0) {
            throw new IndexOutOfBoundsException();
        }
        for (int reading = from; reading < orders.size(); reading++) {
            if (isBelow(tree(orders.get(reading)), upper, lower)) {
                return reading;
            }
        }
        return -1;
    }

    public int formulaChar(int reading, int k) {
        checkReading(reading);
        if (k < 0) {
            throw new IndexOutOfBoundsException();
        }
        String formula = formula(tree(orders.get(reading)), orders.get(reading).get(0));
        return k < formula.length() ? formula.charAt(k) : -1;
    }

    public boolean entails(int i, int j) {
        checkReading(i);
        checkReading(j);
        return entailments[i][j];
    }

    public int classOf(int reading) {
        checkReading(reading);
        int least = 0;
        while (!(entailments[reading][least] && entailments[least][reading])) {
            least++;
        }
        return least;
    }

    public int classes() {
        checkSentence();
        Set<Integer> found = new HashSet<>();
        for (int reading = 0; reading < orders.size(); reading++) {
            found.add(classOf(reading));
        }
        return found.size();
    }

    public boolean isWeak(int reading) {
        checkReading(reading);
        for (int other = 0; other < orders.size(); other++) {
            if (entailments[other][reading] && !entailments[reading][other]) {
                return true;
            }
        }
        return false;
    }

    public int strongest() {
        checkSentence();
        Set<Integer> found = new HashSet<>();
        for (int reading = 0; reading < orders.size(); reading++) {
            if (!isWeak(reading)) {
                found.add(classOf(reading));
            }
        }
        return found.size();
    }

    public int setDomain(int n) {
        if (n < 1 || n > 3) {
            throw new IllegalArgumentException();
        }
        int former = domain;
        domain = n;
        facts.clear();
        return former;
    }

    public int predicates() {
        return sentence == null ? 0 : sentence.names.size();
    }

    public int arity(int predicate) {
        if (predicate < 0 || predicate >= predicates()) {
            throw new IndexOutOfBoundsException();
        }
        return sentence.arities.get(sentence.names.get(predicate));
    }

    public boolean setFact(int predicate, int a, int b, boolean fact) {
        int arity = arity(predicate);
        if (a < 0 || a >= domain || b < 0 || b >= domain || (arity == 1 && b != 0)) {
            throw new IllegalArgumentException();
        }
        String said = sentence.names.get(predicate) + "(" + a + (arity == 2 ? "," + b : "") + ")";
        boolean former = facts.contains(said);
        if (fact) {
            facts.add(said);
        } else {
            facts.remove(said);
        }
        return former;
    }

    public boolean truth(int reading) {
        checkReading(reading);
        return holds(tree(orders.get(reading)), orders.get(reading).get(0), new HashMap<>());
    }

    public int trueReadings() {
        checkSentence();
        int count = 0;
        for (int reading = 0; reading < orders.size(); reading++) {
            count += truth(reading) ? 1 : 0;
        }
        return count;
    }

    public int nextDifferent(int from) {
        checkSentence();
        if (from < 0) {
            throw new IndexOutOfBoundsException();
        }
        for (int reading = from; reading < orders.size(); reading++) {
            if (truth(reading) != truth(0)) {
                return reading;
            }
        }
        return -1;
    }

    public long fingerprint() {
        List<Integer> numbers = new ArrayList<>(List.of(fragments(), orders.size()));
        for (int reading = 0; reading < orders.size() && reading < 50; reading++) {
            numbers.addAll(orders.get(reading));
            numbers.add(classOf(reading));
            numbers.add(isWeak(reading) ? 1 : 0);
            numbers.add(truth(reading) ? 1 : 0);
        }
        long print = 37;
        for (int number : numbers) {
            print = 31 * print + number;
        }
        return print;
    }

    private void checkSentence() {
        if (sentence == null) {
            throw new IllegalStateException();
        }
    }

    private void checkFragment(int fragment) {
        if (fragment < 0 || fragment >= fragments()) {
            throw new IndexOutOfBoundsException();
        }
    }

    private void checkHole(int fragment, int hole) {
        checkFragment(fragment);
        if (hole < 0 || hole >= sentence.holes(fragment)) {
            throw new IndexOutOfBoundsException();
        }
    }

    private void checkReading(int reading) {
        if (reading < 0 || reading >= orders.size()) {
            throw new IndexOutOfBoundsException();
        }
    }

    // ---- the text: a state is what may still follow, and how many items of a kind there were

    private record State(String rest, int quantifiers, int negations) { }

    /** In a template, V is any variable and L any letter; $ is the end of the text. */
    private static List<State> itemsAfter(int quantifiers, int negations) {
        List<String> atoms = new ArrayList<>();
        for (int letters = 1; letters <= 5; letters++) {
            atoms.add("L".repeat(letters) + "(V)");
            atoms.add("L".repeat(letters) + "(V,V)");
        }
        List<State> states = new ArrayList<>();
        for (String atom : atoms) {
            states.add(new State(atom + "$", quantifiers, negations));
            for (int kind = 1; kind <= 4 && quantifiers < 4; kind++) {
                String item = WORDS.get(kind) + " V:" + atom + ";";
                states.add(new State(item, quantifiers + 1, negations));
            }
        }
        if (negations < 2) {
            states.add(new State("not;", quantifiers, negations + 1));
        }
        return states;
    }

    private static boolean isSign(char template, char c) {
        return switch (template) {
            case 'V' -> c >= 'u' && c <= 'z';
            case 'L' -> c >= 'a' && c <= 'z';
            default -> template == c && c != '$';
        };
    }

    private static int errorOfForm(String text) {
        Set<State> states = new HashSet<>(itemsAfter(0, 0));
        for (int at = 0; at < text.length(); at++) {
            Set<State> next = new HashSet<>();
            for (State state : states) {
                if (isSign(state.rest.charAt(0), text.charAt(at))) {
                    String rest = state.rest.substring(1);
                    if (rest.isEmpty()) {
                        next.addAll(itemsAfter(state.quantifiers, state.negations));
                    } else {
                        next.add(new State(rest, state.quantifiers, state.negations));
                    }
                }
            }
            if (next.isEmpty()) {
                return at;
            }
            states = next;
        }
        return states.stream().anyMatch(state -> state.rest.equals("$")) ? -1 : text.length();
    }

    private static Parsed parse(String text) {
        Parsed parsed = new Parsed();
        Set<Character> bound = new HashSet<>();
        for (String item : text.split(";")) {
            if (item.contains(":")) {
                bound.add(item.charAt(item.indexOf(':') - 1));
            }
        }
        Set<Character> seen = new HashSet<>();
        int at = 0;
        for (String item : text.split(";")) {
            int colon = item.indexOf(':');
            if (item.equals("not")) {
                add(parsed, 5, "", ' ');
            } else if (colon < 0) {
                addAtom(parsed, item, at, bound);
            } else {
                char variable = item.charAt(colon - 1);
                if (!seen.add(variable)) {
                    parsed.misuse = Math.min(parsed.misuse, at + colon - 1);
                }
                add(parsed, WORDS.indexOf(item.substring(0, colon - 2)), "", variable);
                String atom = item.substring(colon + 1);
                if (atom.substring(atom.indexOf('(')).indexOf(variable) < 0) {
                    parsed.misuse = Math.min(parsed.misuse, at + colon + 1);
                }
                addAtom(parsed, atom, at + colon + 1, bound);
            }
            at += item.length() + 1;
        }
        return parsed;
    }

    private static void add(Parsed parsed, int kind, String atom, char variable) {
        parsed.kinds.add(kind);
        parsed.atoms.add(atom);
        parsed.variables.add(variable);
    }

    private static void addAtom(Parsed parsed, String atom, int at, Set<Character> bound) {
        add(parsed, 0, atom, ' ');
        int open = atom.indexOf('(');
        String name = atom.substring(0, open);
        for (int k = open + 1; k < atom.length(); k += 2) {
            if (!bound.contains(atom.charAt(k))) {
                parsed.misuse = Math.min(parsed.misuse, at + k);
            }
        }
        int arity = atom.contains(",") ? 2 : 1;
        if (!parsed.arities.containsKey(name)) {
            parsed.arities.put(name, arity);
            parsed.names.add(name);
        } else if (parsed.arities.get(name) != arity) {
            parsed.misuse = Math.min(parsed.misuse, at);
        }
    }

    // ---- readings

    private Set<Integer> targets(int fragment, int hole) {
        Set<Integer> found = new TreeSet<>();
        int nucleus = sentence.size() - 1;
        if (sentence.kinds.get(fragment) == 5) {
            found.add(nucleus);
        } else if (hole == 0) {
            found.add(fragment + 1);
        } else {
            for (int leaf = 0; leaf <= nucleus; leaf++) {
                String atom = sentence.atoms.get(leaf);
                String inside = atom.substring(Math.max(0, atom.indexOf('(')));
                if (leaf != fragment + 1 && inside.indexOf(sentence.variables.get(fragment)) >= 0) {
                    found.add(leaf);
                }
            }
            if (found.isEmpty()) {
                found.add(nucleus);
            }
        }
        for (int[] constraint : constraints) {
            if (constraint[0] == fragment && constraint[1] == hole) {
                found.add(constraint[2]);
            }
        }
        return found;
    }

    private void listReadings() {
        int[][] wanted = new int[sentence.size()][2];
        for (int fragment = 0; fragment < sentence.size(); fragment++) {
            for (int hole = 0; hole < sentence.holes(fragment); hole++) {
                for (int target : targets(fragment, hole)) {
                    wanted[fragment][hole] |= 1 << target;
                }
            }
        }
        orders = new ArrayList<>(split((1 << sentence.size()) - 1, wanted, new HashMap<>()));
        orders.sort(PlainLister::compareOrders);
        closeSteps();
    }

    private static int compareOrders(List<Integer> order, List<Integer> other) {
        for (int k = 0; k < order.size(); k++) {
            if (!order.get(k).equals(other.get(k))) {
                return order.get(k) - other.get(k);
            }
        }
        return 0;
    }

    /** All ways to make one tree of a set of fragments: a root, and a set for each of its holes. */
    private List<List<Integer>> split(int set, int[][] wanted, Map<Integer, List<List<Integer>>> known) {
        if (known.containsKey(set)) {
            return known.get(set);
        }
        List<List<Integer>> found = new ArrayList<>();
        for (int root = 0; root < sentence.size() && isBalanced(set); root++) {
            if ((set >> root & 1) == 0) {
                continue;
            }
            int rest = set & ~(1 << root);
            int holes = sentence.holes(root);
            if (holes == 0 && rest == 0) {
                found.add(List.of(root));
            }
            if (holes == 1 && (wanted[root][0] & ~rest) == 0) {
                for (List<Integer> inside : split(rest, wanted, known)) {
                    found.add(join(root, inside, List.of()));
                }
            }
            for (int first = rest; holes == 2 && first > 0; first = (first - 1) & rest) {
                int second = rest & ~first;
                if ((wanted[root][0] & ~first) != 0 || (wanted[root][1] & ~second) != 0) {
                    continue;
                }
                for (List<Integer> inside : split(first, wanted, known)) {
                    for (List<Integer> behind : split(second, wanted, known)) {
                        found.add(join(root, inside, behind));
                    }
                }
            }
        }
        known.put(set, found);
        return found;
    }

    /** One hole less than there are fragments. */
    private boolean isBalanced(int set) {
        int holes = 0;
        for (int fragment = 0; fragment < sentence.size(); fragment++) {
            holes += (set >> fragment & 1) != 0 ? sentence.holes(fragment) : 0;
        }
        return holes == Integer.bitCount(set) - 1;
    }

    private static List<Integer> join(int root, List<Integer> first, List<Integer> second) {
        List<Integer> all = new ArrayList<>(List.of(root));
        all.addAll(first);
        all.addAll(second);
        return all;
    }

    /** For each fragment what is in its holes. */
    private Map<Integer, List<Integer>> tree(List<Integer> order) {
        Map<Integer, List<Integer>> tree = new TreeMap<>();
        grow(new ArrayDeque<>(order), tree);
        return tree;
    }

    private int grow(ArrayDeque<Integer> order, Map<Integer, List<Integer>> tree) {
        int root = order.removeFirst();
        List<Integer> inside = new ArrayList<>();
        for (int hole = 0; hole < sentence.holes(root); hole++) {
            inside.add(grow(order, tree));
        }
        tree.put(root, inside);
        return root;
    }

    private static List<Integer> orderOf(Map<Integer, List<Integer>> tree, int root) {
        List<Integer> order = new ArrayList<>(List.of(root));
        for (int inside : tree.get(root)) {
            order.addAll(orderOf(tree, inside));
        }
        return order;
    }

    /** The fragment and the hole in which a fragment is; -1 for the root. */
    private static int[] upper(Map<Integer, List<Integer>> tree, int fragment) {
        for (Map.Entry<Integer, List<Integer>> entry : tree.entrySet()) {
            int hole = entry.getValue().indexOf(fragment);
            if (hole >= 0) {
                return new int[] {entry.getKey(), hole};
            }
        }
        return new int[] {-1, -1};
    }

    private static boolean isBelow(Map<Integer, List<Integer>> tree, int upper, int lower) {
        for (int inside : tree.get(upper)) {
            if (inside == lower || isBelow(tree, inside, lower)) {
                return true;
            }
        }
        return false;
    }

    private int polarityIn(Map<Integer, List<Integer>> tree, int fragment) {
        int[] place = upper(tree, fragment);
        if (place[0] < 0) {
            return 1;
        }
        int outside = polarityIn(tree, place[0]);
        return switch (WORDS.get(sentence.kinds.get(place[0])) + place[1]) {
            case "every1", "some1", "some0", "most1" -> outside;
            case "every0", "no0", "no1", "not0" -> -outside;
            default -> 0;
        };
    }

    private String formula(Map<Integer, List<Integer>> tree, int fragment) {
        String word = WORDS.get(sentence.kinds.get(fragment));
        List<Integer> inside = tree.get(fragment);
        return switch (inside.size()) {
            case 0 -> sentence.atoms.get(fragment);
            case 1 -> "not(" + formula(tree, inside.get(0)) + ")";
            default -> word + " " + sentence.variables.get(fragment) + "("
                    + formula(tree, inside.get(0)) + "," + formula(tree, inside.get(1)) + ")";
        };
    }

    // ---- meaning

    private void closeSteps() {
        int count = orders.size();
        Map<List<Integer>, Integer> numbers = new HashMap<>();
        for (int reading = 0; reading < count; reading++) {
            numbers.put(orders.get(reading), reading);
        }
        List<Set<Integer>> steps = new ArrayList<>();
        for (int reading = 0; reading < count; reading++) {
            steps.add(stepsFrom(reading, numbers));
        }
        entailments = new boolean[count][count];
        for (int reading = 0; reading < count; reading++) {
            ArrayDeque<Integer> open = new ArrayDeque<>(Collections.singleton(reading));
            while (!open.isEmpty()) {
                int next = open.removeFirst();
                if (!entailments[reading][next]) {
                    entailments[reading][next] = true;
                    open.addAll(steps.get(next));
                }
            }
        }
    }

    private Set<Integer> stepsFrom(int reading, Map<List<Integer>, Integer> numbers) {
        Set<Integer> found = new HashSet<>();
        Map<Integer, List<Integer>> tree = tree(orders.get(reading));
        for (int q = 0; q < sentence.size(); q++) {
            if (sentence.holes(q) == 2 && sentence.holes(tree.get(q).get(1)) == 2) {
                int r = tree.get(q).get(1);
                Integer other = numbers.get(swapped(reading, q, r));
                if (other != null && isStep(q, r, polarityIn(tree, q))) {
                    found.add(other);
                }
            }
        }
        return found;
    }

    private List<Integer> swapped(int reading, int q, int r) {
        Map<Integer, List<Integer>> tree = tree(orders.get(reading));
        int[] place = upper(tree, q);
        int rest = tree.get(r).get(1);
        tree.get(r).set(1, q);
        tree.get(q).set(1, rest);
        if (place[0] >= 0) {
            tree.get(place[0]).set(place[1], r);
        }
        return orderOf(tree, place[0] >= 0 ? orders.get(reading).get(0) : r);
    }

    private boolean isStep(int q, int r, int polarity) {
        int kind = sentence.kinds.get(q);
        int other = sentence.kinds.get(r);
        if (kind == other) {
            return kind == 1 || kind == 2;
        }
        if (!Arrays.asList(1, 2).containsAll(List.of(kind, other))) {
            return false;
        }
        return (polarity == 1 && kind == 2) || (polarity == -1 && kind == 1);
    }

    // ---- models

    private boolean holds(Map<Integer, List<Integer>> tree, int fragment, Map<Character, Integer> values) {
        int kind = sentence.kinds.get(fragment);
        List<Integer> inside = tree.get(fragment);
        if (kind == 0) {
            String atom = sentence.atoms.get(fragment);
            int open = atom.indexOf('(');
            StringBuilder said = new StringBuilder(atom);
            for (int k = open + 1; k < atom.length(); k += 2) {
                said.setCharAt(k, (char) ('0' + values.getOrDefault(atom.charAt(k), 0)));
            }
            return facts.contains(said.toString());
        }
        if (kind == 5) {
            return !holds(tree, inside.get(0), values);
        }
        int a = 0;
        int b = 0;
        for (int d = 0; d < domain; d++) {
            Map<Character, Integer> with = new HashMap<>(values);
            with.put(sentence.variables.get(fragment), d);
            if (holds(tree, inside.get(0), with)) {
                a++;
                b += holds(tree, inside.get(1), with) ? 1 : 0;
            }
        }
        return switch (kind) {
            case 1 -> a == b;
            case 2 -> b > 0;
            case 3 -> b == 0;
            default -> 2 * b > a;
        };
    }
}
