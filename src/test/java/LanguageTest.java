import java.io.IOException;
import java.lang.reflect.Field;
import java.lang.reflect.Method;
import java.lang.reflect.Modifier;
import java.nio.file.Files;
import java.nio.file.Path;
import java.util.Arrays;
import java.util.List;
import java.util.Set;
import java.util.TreeSet;
import java.util.regex.Matcher;
import java.util.regex.Pattern;

/** The rules of LANGUAGE.md that a look at the source and at the face can tell. */
public final class LanguageTest {
    private static final Path SOURCE = Path.of("src/main/java/MightHaveBeenPutUp.java");
    private static final int MOST_LINES = 60, MOST_CLASSES = 12, MOST_FIELDS = 20, MOST_PARAMETERS = 7;

    private static final String[] FACE = {
        "int set(int,int,int)", "int regret(int,int,int)", "int told(int,int)", "long wall(int)", "int feed(int)",
        "int text()", "int force(int)", "int raise(int,int,int)", "int fell(int)", "long room(int)", "int year()",
        "int run(int,int,int)", "long later(int)", "int walk(int,int)", "long round(int,int)", "int reach(int)",
        "int key(int)", "int add(int,int,int)", "long share(int,int)", "int tells(int,int,int)",
        "int film(int,int,int)", "int drawn(int,int)", "long chance(int,int,int,int)", "int image()", "int back()",
        "int count(int)", "int sheet(int,int,int)", "int cell(int,int,int)", "int copy(int,int,int,int,int)",
        "int bag(int,int,int,int)", "int taken(int,int)",
    };

    public static void main(String[] args) throws IOException {
        face();
        insides();
        String source = Files.readString(SOURCE);
        words(code(source));
        methodLengths(source);
        Check.end("LanguageTest");
    }

    private static void want(String words, boolean so) {
        Check.due(words, so ? 1 : 0, 1);
    }

    private static String told(Method m) {
        StringBuilder all = new StringBuilder(m.getReturnType().getName() + " " + m.getName() + "(");
        String between = "";
        for (Class<?> type : m.getParameterTypes()) {
            all.append(between).append(type.getName());
            between = ",";
        }
        return all.append(")").toString();
    }

    private static void face() {
        Class<?> it = MightHaveBeenPutUp.class;
        want("public and final", Modifier.isPublic(it.getModifiers()) && Modifier.isFinal(it.getModifiers()));
        want("one constructor", it.getDeclaredConstructors().length == 1);
        Set<String> seen = new TreeSet<>();
        Set<String> names = new TreeSet<>();
        for (Method m : it.getDeclaredMethods()) {
            if (!Modifier.isPrivate(m.getModifiers())) {
                want("public " + m, Modifier.isPublic(m.getModifiers()) && !Modifier.isStatic(m.getModifiers()));
                seen.add(told(m));
                names.add(m.getName());
            }
        }
        want("the face", seen.equals(new TreeSet<>(Arrays.asList(FACE))));
        for (Class<?> c : all()) {
            for (Method m : c.getDeclaredMethods()) {
                boolean own = c == it && Modifier.isPublic(m.getModifiers());
                want("a name of its own: " + m, own || !names.contains(m.getName()));
            }
        }
        Set<String> constants = new TreeSet<>();
        for (Field f : it.getDeclaredFields()) {
            if (!Modifier.isPrivate(f.getModifiers())) {
                constants.add(f.getType().getName() + " " + f.getName());
            }
        }
        want("the constants", constants.equals(Set.of("int NONE", "int BAD", "int STATE", "int FULL", "long NO")));
    }

    private static List<Class<?>> all() {
        List<Class<?>> all = new java.util.ArrayList<>(Arrays.asList(MightHaveBeenPutUp.class.getDeclaredClasses()));
        all.add(MightHaveBeenPutUp.class);
        return all;
    }

    private static void insides() {
        want("few classes", all().size() <= MOST_CLASSES);
        for (Class<?> c : all()) {
            want("static " + c, c == MightHaveBeenPutUp.class || Modifier.isStatic(c.getModifiers()));
            int fields = 0;
            for (Field f : c.getDeclaredFields()) {
                boolean isStatic = Modifier.isStatic(f.getModifiers());
                want("final " + f, !isStatic || Modifier.isFinal(f.getModifiers()));
                fields += isStatic ? 0 : 1;
            }
            want("few fields in " + c, fields <= MOST_FIELDS);
            for (Method m : c.getDeclaredMethods()) {
                want("few parameters of " + m, m.getParameterCount() <= MOST_PARAMETERS);
            }
        }
    }

    /** The source without what stands in comments and texts. */
    private static String code(String source) {
        return source.replaceAll("(?s)/\\*.*?\\*/", " ").replaceAll("//[^\n]*", " ")
            .replaceAll("\"[^\"\n]*\"", "\"\"");
    }

    private static void words(String code) {
        String[] none = {"\\bthrow\\b", "\\bthrows\\b", "\\btry\\b", "\\bcatch\\b", "\\bfinally\\b", "\\bassert\\b",
            "\\bsynchronized\\b", "->", "::", "Exact\\b", "\\bequals\\b", "\\bhashCode\\b", "\\btoString\\b",
            "\\bprotected\\b", "\\bstatic\\s*\\{", "\"\"\\s*\\+", "\\+\\s*\"\"", "\\bwhile\\b", "\\bthis\\s*[,)]",
            "\\bpackage\\b", "\\bnative\\b", "\\bvolatile\\b", "\\bRandom\\b", "\\bThread\\b",
            "System\\.(?!arraycopy\\b)", "Arrays\\.(?!copyOf\\b|fill\\b)", "Math\\.(?!max\\b|min\\b)",
            "Long\\.(?!bitCount\\b|numberOfLeadingZeros\\b)"};
        for (String word : none) {
            Matcher found = Pattern.compile(word).matcher(code);
            want("no " + word, !found.find());
        }
        Matcher imports = Pattern.compile("import\\s+([^;]+);").matcher(code);
        while (imports.find()) {
            want("import " + imports.group(1), imports.group(1).equals("java.util.Arrays"));
        }
        want("texts of signs 1 to 127", code.chars().allMatch(c -> c > 0 && c < 128));
    }

    /** A method begins with a line that ends in ") {" four or eight blanks in, and ends with the brace below. */
    private static void methodLengths(String source) {
        String[] lines = source.split("\n");
        Pattern head = Pattern.compile("^( {4}| {8})[A-Za-z][^;=]*\\) \\{$");
        for (int i = 0; i < lines.length; i++) {
            Matcher m = head.matcher(lines[i]);
            if (m.matches() && !lines[i].matches("\\s*(if|for|switch|else)\\b.*")) {
                int end = i;
                while (!lines[end].equals(m.group(1) + "}")) {
                    end++;
                }
                want("short: " + lines[i].trim(), end - i < MOST_LINES);
            }
        }
    }
}
