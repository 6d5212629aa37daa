import java.lang.reflect.InvocationTargetException;
import java.lang.reflect.Method;

/**
 * Runs calls that are written as text. A line is one of
 * <pre>
 * new                      begins with a new object
 * == promise 3: ...        begins with a new object, and says which sentence of the document is tried
 * text every x:p(x);q(x)   types these characters, behind what the text has
 * read q(x) -> -3 2        types these characters into the empty text and reads them: the answers of
 *                          readSentence and errorKind; the text is cleared, and was empty without error
 * formula 0 = p(x)         reads the formula of a reading, to its end
 * orders = 0 1 2 / 1 0 2   reads the orders of all readings
 * call(1, 2) = answer      one or several calls, with "; " between them
 * # ...                    a remark
 * </pre>
 * where an answer is a number, true, false, or throws and the name of an exception.
 */
final class Script {
    /** What later calls of one object answer is free. */
    private static final int MAX_CALLS = 512;

    private String name;
    private ScopeLister lister = new ScopeLister();
    private int calls;
    private int wrong;

    private Script(String name) {
        this.name = name;
    }

    /** Answers how many answers were not as due. */
    static int run(String name, String lines) {
        Script script = new Script(name);
        for (String line : lines.split("\n")) {
            script.runLine(line.strip());
        }
        return script.wrong;
    }

    static void exit(int wrong) {
        System.out.println(wrong == 0 ? "all answers are as due" : wrong + " answers are not as due");
        System.exit(wrong == 0 ? 0 : 1);
    }

    private void runLine(String line) {
        if (line.isEmpty() || line.startsWith("#")) {
            return;
        }
        if (line.equals("new")) {
            makeObject();
        } else if (line.startsWith("== ")) {
            name = line.substring(3);
            makeObject();
        } else if (line.startsWith("text ")) {
            type(line.substring(5));
        } else if (line.startsWith("read ")) {
            int arrow = line.lastIndexOf(" -> ");
            compare(line, read(line.substring(5, arrow)), line.substring(arrow + 4));
        } else if (line.startsWith("formula ")) {
            int equals = line.indexOf(" = ");
            int reading = Integer.parseInt(line.substring(8, equals));
            compare(line, formula(reading), line.substring(equals + 3));
        } else if (line.startsWith("orders = ")) {
            compare(line, orders(), line.substring(9));
        } else {
            for (String call : line.split("; ")) {
                runCall(call.strip());
            }
        }
    }

    private void makeObject() {
        lister = new ScopeLister();
        calls = 0;
    }

    private void count(int more) {
        calls += more;
        if (calls > MAX_CALLS) {
            throw new IllegalStateException(name + ": more than 512 calls of one object");
        }
    }

    private void type(String text) {
        count(text.length());
        text.chars().forEach(lister::type);
    }

    private String read(String text) {
        type(text);
        count(3);
        int answer = lister.readSentence();
        int kind = lister.errorKind();
        int length = lister.clearText();
        String due = length == (kind == 0 ? 0 : text.length()) ? "" : ", and the text had the length " + length;
        return answer + " " + kind + due;
    }

    private void runCall(String line) {
        count(1);
        int equals = line.indexOf(" = ");
        String due = line.substring(equals + 3).replaceAll("[.;]$", "");
        compare(line, answer(lister, line.substring(0, equals)), due);
    }

    private void compare(String line, String got, String due) {
        if (!got.equals(due)) {
            wrong++;
            System.out.println(name + ": " + line + ": answered " + got);
        }
    }

    private String formula(int reading) {
        StringBuilder signs = new StringBuilder();
        int sign = lister.formulaChar(reading, 0);
        while (sign >= 0) {
            count(1);
            signs.append((char) sign);
            sign = lister.formulaChar(reading, signs.length());
        }
        return signs.toString();
    }

    private String orders() {
        StringBuilder all = new StringBuilder();
        int readings = lister.readings();
        int fragments = lister.fragments();
        count(2 + readings * fragments);
        for (int reading = 0; reading < readings; reading++) {
            all.append(reading == 0 ? "" : " / ");
            for (int k = 0; k < fragments; k++) {
                all.append(k == 0 ? "" : " ").append(lister.place(reading, k));
            }
        }
        return all.toString();
    }

    /** The answer of a call like "place(0, 1)" on any object with this method. */
    static String answer(Object object, String call) {
        int open = call.indexOf('(');
        String inside = call.substring(open + 1, call.lastIndexOf(')')).strip();
        String[] words = inside.isEmpty() ? new String[0] : inside.split(" *, *");
        Object[] arguments = new Object[words.length];
        for (int k = 0; k < words.length; k++) {
            boolean isTruth = words[k].equals("true") || words[k].equals("false");
            arguments[k] = isTruth ? (Object) Boolean.valueOf(words[k]) : (Object) Integer.valueOf(words[k]);
        }
        return answer(object, call.substring(0, open), arguments);
    }

    static String answer(Object object, String method, Object... arguments) {
        for (Method candidate : object.getClass().getMethods()) {
            if (candidate.getName().equals(method)) {
                try {
                    candidate.setAccessible(true);
                    return String.valueOf(candidate.invoke(object, arguments));
                } catch (InvocationTargetException e) {
                    return "throws " + e.getCause().getClass().getSimpleName();
                } catch (IllegalAccessException e) {
                    throw new IllegalStateException(e);
                }
            }
        }
        throw new IllegalArgumentException("no method " + method);
    }
}
