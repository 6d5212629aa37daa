import java.io.IOException;
import java.lang.reflect.Constructor;
import java.lang.reflect.Field;
import java.lang.reflect.Method;
import java.lang.reflect.Modifier;
import java.nio.file.Files;
import java.nio.file.Path;
import java.util.ArrayList;
import java.util.List;
import java.util.Set;
import java.util.TreeSet;
import java.util.regex.Matcher;
import java.util.regex.Pattern;

/** The public face is that of the document, and there is nothing beside it. */
public final class FaceTest {
    private static final String FACE = """
            int type(int) IllegalArgumentException IllegalStateException
            int clearText()
            int readSentence()
            int errorKind()
            int fragments()
            int kindOf(int) IndexOutOfBoundsException
            boolean hasEdge(int,int,int) IndexOutOfBoundsException
            int constrain(int,int,int) IndexOutOfBoundsException IllegalStateException
            int release() IllegalStateException
            int readings() IllegalStateException
            int place(int,int) IndexOutOfBoundsException
            int plug(int,int,int) IndexOutOfBoundsException
            int above(int,int) IndexOutOfBoundsException
            int polarity(int,int) IndexOutOfBoundsException
            int countBelow(int,int) IndexOutOfBoundsException
            int nextBelow(int,int,int) IndexOutOfBoundsException
            int formulaChar(int,int) IndexOutOfBoundsException
            boolean entails(int,int) IndexOutOfBoundsException
            int classOf(int) IndexOutOfBoundsException
            int classes() IllegalStateException
            boolean isWeak(int) IndexOutOfBoundsException
            int strongest() IllegalStateException
            int setDomain(int) IllegalArgumentException
            int predicates()
            int arity(int) IndexOutOfBoundsException
            boolean setFact(int,int,int,boolean) IndexOutOfBoundsException IllegalArgumentException
            boolean truth(int) IndexOutOfBoundsException
            int trueReadings() IllegalStateException
            int nextDifferent(int) IllegalStateException IndexOutOfBoundsException
            long fingerprint()
            """;

    /** "Ahead of the calls ... the interface says: ---- ...": what stands in the source, from the first line on. */
    private static final List<String> IN_ORDER = List.of(
            "---- text, sentence", "type", "clearText", "readSentence", "errorKind", "fragments", "kindOf", "hasEdge",
            "constrain", "release",
            "---- readings", "readings", "place", "plug", "above", "polarity", "countBelow", "nextBelow", "formulaChar",
            "---- meaning", "entails", "classOf", "classes", "isWeak", "strongest",
            "---- models", "setDomain", "predicates", "arity", "setFact", "truth", "trueReadings", "nextDifferent",
            "fingerprint", "---- what several calls share");
    private static final Pattern HEADING_OR_CALL =
            Pattern.compile("(?m)^    (?:// (---- .*)|public \\w+ (\\w+)\\(.*)$");

    private static int wrong = 0;

    public static void main(String[] args) throws IOException {
        Class<?> face = ScopeLister.class;
        check(Modifier.isPublic(face.getModifiers()) && Modifier.isFinal(face.getModifiers()), "public final");
        checkMethods(face);
        Constructor<?>[] constructors = face.getDeclaredConstructors();
        check(constructors.length == 1 && constructors[0].getParameterCount() == 0
                && Modifier.isPublic(constructors[0].getModifiers()), "one constructor");
        for (Field field : face.getDeclaredFields()) {
            check(Modifier.isPrivate(field.getModifiers()), field.toString());
        }
        checkInside(face);
        checkHeadings();
        Script.exit(wrong);
    }

    private static void checkMethods(Class<?> face) {
        Set<String> due = new TreeSet<>(Set.of(FACE.strip().split("\\s*\n\\s*")));
        Set<String> got = new TreeSet<>();
        for (Method method : face.getDeclaredMethods()) {
            if (!Modifier.isPrivate(method.getModifiers())) {
                got.add(describe(method));
            }
        }
        check(got.equals(due), "the face is " + got);
    }

    private static void checkHeadings() throws IOException {
        List<String> got = new ArrayList<>();
        Matcher line = HEADING_OR_CALL.matcher(Files.readString(Path.of("src/main/java/ScopeLister.java")));
        while (line.find()) {
            got.add(line.group(1) == null ? line.group(2) : line.group(1));
        }
        check(got.equals(IN_ORDER), "headings and calls are " + got);
    }

    private static String describe(Method method) {
        StringBuilder text = new StringBuilder();
        text.append(method.getReturnType()).append(' ').append(method.getName()).append('(');
        for (Class<?> type : method.getParameterTypes()) {
            text.append(text.charAt(text.length() - 1) == '(' ? "" : ",").append(type);
        }
        text.append(')');
        for (Class<?> exception : method.getExceptionTypes()) {
            text.append(' ').append(exception.getSimpleName());
        }
        return text.toString();
    }

    /** Classes inside are static and not public, and no method of theirs, or private one, bears a public name. */
    private static void checkInside(Class<?> face) {
        Set<String> names = new TreeSet<>();
        for (Method method : face.getMethods()) {
            names.add(method.getName());
        }
        for (Method method : face.getDeclaredMethods()) {
            check(Modifier.isPublic(method.getModifiers()) || !names.contains(method.getName()), method.toString());
        }
        for (Class<?> inside : face.getDeclaredClasses()) {
            int modifiers = inside.getModifiers();
            check(Modifier.isStatic(modifiers) && !Modifier.isPublic(modifiers), inside.toString());
            check(inside.getDeclaredFields().length <= 20, inside + " has many fields");
            for (Method method : inside.getDeclaredMethods()) {
                check(!names.contains(method.getName()), method.toString());
            }
        }
        check(face.getDeclaredClasses().length <= 12, "many classes");
    }

    private static void check(boolean isRight, String what) {
        if (!isRight) {
            wrong++;
            System.out.println("not as due: " + what);
        }
    }
}
