import java.util.ArrayList;
import java.util.List;
import java.util.Random;

/** Compares the class with the plain lister, call by call, in runs that are the same each time. */
public final class RandomRunsTest {
    private static final int CALLS = 512;
    private static final String[] WORDS = {"every", "some", "no", "most"};
    private static final String[] NAMES = {"p", "q", "not", "every", "abcde", "no", "r", "u", "most", "some"};

    /** Numbers at the ends of the range, and such as come round to small ones. */
    private static final int[] FAR = {
        Integer.MIN_VALUE, Integer.MIN_VALUE + 1, Integer.MAX_VALUE, Integer.MAX_VALUE - 1, 32, 33, 256, 65536, 1 << 30,
    };

    private final Random random;
    private final String title;
    private final ScopeLister lister = new ScopeLister();
    private final PlainLister plain = new PlainLister();
    private final List<String> calls = new ArrayList<>();
    private boolean isWrong;

    private RandomRunsTest(long seed) {
        this.random = new Random(seed);
        this.title = "run " + seed;
    }

    public static void main(String[] args) {
        int runs = args.length > 0 ? Integer.parseInt(args[0]) : 400;
        int wrong = 0;
        for (int seed = 0; seed < runs && wrong < 5; seed++) {
            RandomRunsTest run = new RandomRunsTest(seed);
            run.run();
            wrong += run.isWrong ? 1 : 0;
        }
        Script.exit(wrong);
    }

    private void run() {
        while (calls.size() < CALLS && !isWrong) {
            int choice = random.nextInt(100);
            if (calls.isEmpty() || choice < 3) {
                typeSentence();
            } else if (choice < 5) {
                compare("clearText");
            } else if (choice < 7) {
                compare("type", random.nextInt(140) - 5);
            } else if (choice < 9) {
                compare("readSentence");
            } else if (choice < 15) {
                askConstraints();
            } else if (choice < 45) {
                askModel();
            } else if (choice < 60) {
                askMeaning();
            } else {
                askReadings();
            }
        }
    }

    private void compare(String method, Object... arguments) {
        if (calls.size() >= CALLS || isWrong) {
            return;
        }
        String got = Script.answer(lister, method, arguments);
        String due = Script.answer(plain, method, arguments);
        calls.add(method + List.of(arguments) + " = " + due);
        if (!got.equals(due)) {
            isWrong = true;
            System.out.println(title + ": " + String.join("; ", calls) + "; answered " + got);
        }
    }

    private void typeSentence() {
        if (random.nextInt(4) > 0) {
            compare("clearText");
        }
        String text = random.nextInt(4) == 0 ? spoilt(sentence()) : sentence();
        for (int k = 0; k < text.length(); k++) {
            compare("type", (int) text.charAt(k));
        }
        compare("readSentence");
        compare("errorKind");
        compare("fragments");
        compare("fingerprint");
    }

    /** Mostly right; a limit is passed, or a variable is wrong, now and then. */
    private String sentence() {
        int quantifiers = random.nextInt(20) == 0 ? 5 : random.nextInt(5);
        int negations = random.nextInt(20) == 0 ? 3 : random.nextInt(3);
        boolean isPlain = random.nextInt(3) == 0;
        String variables = "zxuvyw".substring(0, Math.max(1, quantifiers));
        StringBuilder text = new StringBuilder();
        int rest = quantifiers;
        int nots = negations;
        while (rest + nots > 0) {
            if (random.nextInt(rest + nots) < rest) {
                rest--;
                char variable = random.nextInt(60) == 0 ? any("uvwxyz") : variables.charAt(rest);
                text.append(WORDS[random.nextInt(random.nextInt(2) == 0 ? 2 : 4)]).append(' ').append(variable);
                text.append(':').append(restriction(variable, variables, isPlain)).append(';');
            } else {
                nots--;
                text.append("not;");
            }
        }
        return text + atom(any(variables), random.nextBoolean() ? any(variables) : ' ');
    }

    private String restriction(char variable, String variables, boolean isPlain) {
        if (random.nextInt(60) == 0) {
            return atom(any(variables), ' ');
        }
        if (isPlain || random.nextInt(3) > 0) {
            return atom(variable, ' ');
        }
        char other = any(variables);
        return random.nextBoolean() ? atom(variable, other) : atom(other, variable);
    }

    /** Names of pairs are others than those of single variables, but for a few of them. */
    private String atom(char first, char second) {
        int half = NAMES.length / 2;
        boolean isPair = second != ' ';
        int name = random.nextInt(half) + (isPair ^ random.nextInt(60) == 0 ? half : 0);
        return NAMES[name] + "(" + first + (isPair ? "," + second : "") + ")";
    }

    private char any(String signs) {
        return signs.charAt(random.nextInt(signs.length()));
    }

    private String spoilt(String sentence) {
        StringBuilder text = new StringBuilder(sentence);
        int changes = 1 + random.nextInt(2);
        for (int k = 0; k < changes && text.length() > 0; k++) {
            int at = random.nextInt(text.length());
            char sign = random.nextBoolean() ? any("; :(),uvxzaekt") : (char) (32 + random.nextInt(95));
            switch (random.nextInt(4)) {
                case 0 -> text.deleteCharAt(at);
                case 1 -> text.insert(at, sign);
                case 2 -> text.setCharAt(at, sign);
                default -> text.setLength(at);
            }
        }
        return text.toString();
    }

    private int far() {
        return FAR[random.nextInt(FAR.length)];
    }

    private int fragment() {
        if (random.nextInt(40) == 0) {
            return far();
        }
        return random.nextInt(plain.fragments() + 2) - (random.nextInt(10) == 0 ? 1 : 0);
    }

    private int hole() {
        if (random.nextInt(40) == 0) {
            return far();
        }
        return random.nextInt(12) == 0 ? random.nextInt(5) - 2 : random.nextInt(2);
    }

    private int reading() {
        if (random.nextInt(40) == 0) {
            return far();
        }
        int count = plain.fragments() == 0 ? 0 : plain.readings();
        return random.nextInt(15) == 0 ? random.nextInt(count + 3) - 1 : random.nextInt(Math.max(1, count));
    }

    private int start() {
        return switch (random.nextInt(12)) {
            case 0 -> -1;
            case 1 -> far();
            default -> random.nextBoolean() ? 0 : reading();
        };
    }

    private void askConstraints() {
        if (random.nextInt(5) < 3) {
            compare("constrain", fragment(), hole(), fragment());
        } else {
            compare("release");
        }
        compare("readings");
    }

    private void askReadings() {
        switch (random.nextInt(10)) {
            case 0 -> compare("readings");
            case 1 -> compare("place", reading(), fragment());
            case 2 -> compare("plug", reading(), fragment(), hole());
            case 3 -> compare("above", reading(), fragment());
            case 4 -> compare("polarity", reading(), fragment());
            case 5 -> compare("countBelow", fragment(), fragment());
            case 6 -> compare("nextBelow", start(), fragment(), fragment());
            case 7 -> compare("formulaChar", reading(), random.nextInt(110) - 2);
            case 8 -> compare("hasEdge", fragment(), hole(), fragment());
            default -> compare("kindOf", fragment());
        }
    }

    private void askMeaning() {
        switch (random.nextInt(6)) {
            case 0 -> compare("entails", reading(), reading());
            case 1 -> compare("classOf", reading());
            case 2 -> compare("classes");
            case 3 -> compare("isWeak", reading());
            case 4 -> compare("strongest");
            default -> compare("fingerprint");
        }
    }

    private void askModel() {
        int choice = random.nextInt(16);
        switch (choice) {
            case 0 -> compare("setDomain", random.nextInt(9) == 0 ? far() : random.nextInt(5));
            case 1 -> compare("predicates");
            case 2 -> compare("arity", random.nextInt(7) - 1);
            case 3 -> compare("truth", reading());
            case 4 -> compare("trueReadings");
            case 5 -> compare("nextDifferent", start());
            default -> {
                boolean fact = random.nextInt(5) > 0;
                int second = random.nextInt(20) == 0 ? far() : random.nextInt(choice < 10 ? 4 : 1);
                compare("setFact", random.nextInt(6) - (choice == 6 ? 1 : 0), random.nextInt(3) - (choice == 7 ? 1 : 0),
                        second, fact);
            }
        }
    }
}
