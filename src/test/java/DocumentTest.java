import java.io.IOException;
import java.lang.reflect.Field;
import java.lang.reflect.Method;
import java.lang.reflect.Modifier;
import java.nio.file.Files;
import java.nio.file.Path;
import java.util.ArrayList;
import java.util.List;
import java.util.Set;
import java.util.TreeSet;
import java.util.regex.Matcher;
import java.util.regex.Pattern;

/** What stands ahead of the promises, taken from the document itself: the face, its order, the first text. */
public final class DocumentTest {
    private static final Path DOCUMENT = Path.of("../shared/DOC.md");
    private static final Path SOURCE = Path.of("src/main/java/MightHaveBeenPutUp.java");
    private static final int PROMISES = 32;

    public static void main(String[] args) throws IOException, ReflectiveOperationException {
        String document = Files.readString(DOCUMENT);
        String source = Files.readString(SOURCE);
        List<String> face = faceOf(document);
        methods(face);
        constants(document);
        promises(document, face);
        groups(document, source);
        firstText(document);
        Check.end("DocumentTest");
    }

    private static void want(String words, boolean so) {
        Check.due(words, so ? 1 : 0, 1);
    }

    /** The calls in their order, as "int set(int what, int of, int v)". */
    private static List<String> faceOf(String document) {
        List<String> face = new ArrayList<>();
        Matcher m = Pattern.compile("public ((?:int|long) \\w+\\([^)]*\\));").matcher(document);
        while (m.find()) {
            face.add(m.group(1));
        }
        return face;
    }

    private static String typesOnly(String call) {
        return call.replaceAll("(int|long) \\w+(?=[,)])", "$1").replace(", ", ",");
    }

    private static String nameOf(String call) {
        return call.substring(call.indexOf(' ') + 1, call.indexOf('('));
    }

    private static void methods(List<String> face) {
        Set<String> due = new TreeSet<>();
        for (String call : face) {
            due.add(typesOnly(call));
        }
        Set<String> got = new TreeSet<>();
        for (Method m : MightHaveBeenPutUp.class.getDeclaredMethods()) {
            if (!Modifier.isPrivate(m.getModifiers())) {
                got.add(told(m));
                want("public: " + m, Modifier.isPublic(m.getModifiers()));
            }
        }
        Check.due("as many calls", got.size(), PROMISES - 1);
        want("the calls of the document: " + due + ", of the class: " + got, due.equals(got));
    }

    private static String told(Method m) {
        List<String> types = new ArrayList<>();
        for (Class<?> type : m.getParameterTypes()) {
            types.add(type.getName());
        }
        return m.getReturnType().getName() + " " + m.getName() + "(" + String.join(",", types) + ")";
    }

    private static void constants(String document) throws ReflectiveOperationException {
        Matcher line = Pattern.compile("public static final (int|long) ([^;]+);").matcher(document);
        int seen = 0;
        while (line.find()) {
            for (String one : line.group(2).split(", ")) {
                String[] parts = one.split(" = ");
                Field field = MightHaveBeenPutUp.class.getDeclaredField(parts[0]);
                Check.due(parts[0], field.getLong(null), Long.parseLong(parts[1].replace("L", "")));
                want("as told: " + field, field.getType().getName().equals(line.group(1))
                    && field.getModifiers() == (Modifier.PUBLIC | Modifier.STATIC | Modifier.FINAL));
                seen++;
            }
        }
        Check.due("constants", seen, 5);
    }

    /** Each promise is of the face's call in the same place, the first one of the constructor. */
    private static void promises(String document, List<String> face) {
        Matcher m = Pattern.compile("## Promise (\\d+): [^\n]*\n\n`([^`]*)`").matcher(document);
        int seen = 0;
        while (m.find()) {
            seen++;
            Check.due("the promises in order", Integer.parseInt(m.group(1)), seen);
            String due = seen == 1 ? "MightHaveBeenPutUp()" : face.get(seen - 2);
            want("promise " + seen + " is of " + due, m.group(2).equals(due));
        }
        Check.due("promises", seen, PROMISES);
    }

    /** What the interface says ahead of its calls stands ahead of them in the class too, in the same order. */
    private static void groups(String document, String source) {
        Matcher m = Pattern.compile("Ahead of the calls (`[^:]*) the interface says: (---- [^\n]*)\\.\n")
            .matcher(document);
        int at = 0;
        int seen = 0;
        while (m.find()) {
            int next = source.indexOf("// " + m.group(2) + "\n", at);
            want(m.group(2), next > at);
            at = Math.max(at, next);
            for (String call : m.group(1).split(", ")) {
                int place = source.indexOf(" " + call.replace("`", "") + "(", at);
                want(call + " behind " + m.group(2), place > at);
                at = Math.max(at, place);
            }
            seen++;
        }
        Check.due("groups of calls", seen, 6);
    }

    /** TEXT 0 as the document has it, read by the class, tells the same as the one that was there at first. */
    private static void firstText(String document) {
        Matcher m = Pattern.compile("TEXT 0, at first THE RULE, is: ([^\n]*;)\n").matcher(document);
        want("TEXT 0 is told", m.find());
        for (int kind = 0; kind < 6; kind++) {
            MightHaveBeenPutUp x = new MightHaveBeenPutUp();
            Check.due("TEXT 0 is read", Check.text(x, m.group(1)), 1);
            x.regret(kind, 4, 37);
            x.raise(0, 3, 8);
            x.set(0, 0, 7);
            for (int what = 4; what < 7; what++) {
                x.force(0);
                int first = x.told(0, what);
                x.force(1);
                Check.due("by TEXT 0, as it is told: " + what + " of KIND " + kind, x.told(0, what), first);
            }
            Check.due("by TEXT 0, as it is told: nothing is otherwise", sameYears(x), 3);
        }
    }

    private static int sameYears(MightHaveBeenPutUp x) {
        x.film(0, 0, 20);
        return x.tells(0, 0, 5);
    }
}
