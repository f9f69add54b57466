import java.io.IOException;
import java.lang.reflect.Constructor;
import java.lang.reflect.Field;
import java.lang.reflect.Method;
import java.lang.reflect.Modifier;
import java.nio.file.Files;
import java.nio.file.Path;
import java.util.Arrays;
import java.util.HashSet;
import java.util.Set;
import java.util.TreeSet;
import java.util.regex.Matcher;
import java.util.regex.Pattern;

/** The face of the class is the document's, and its text keeps to the rules of LANGUAGE.md that a text can show. */
public final class FaceTest {
    private static final String[] FACE = {
        "int runs(int, int)", "int word(int, int)", "int clearWords()", "int lean(int)", "int ban(int)", "int build()",
        "int states()", "int go(int, int)", "int walk(int, long, int)", "long first(int, int)", "long count(int, int)",
        "long number(int, long, int)", "long row(int, long, int)", "int ways(int, int, int)", "int mark(int)", "int marked()",
        "int weigh(int, int)", "int weight(int)", "int judge(int, int)", "int best(int, int, int)", "int code(int, int)",
        "int member(int)", "int wordOf(int, int)", "int read(int, int)", "int say(long, int)", "int hush()", "int message(int)",
        "int write()", "int tell()", "int put(long, int)", "int cut(int)", "int spoil(int)", "int plate(int)", "int check()",
        "int shape(int)", "int count(int)", "long digest()",
    };
    private static final String[] BANNED = {
        "\\bthrow\\b", "\\bthrows\\b", "\\btry\\b", "\\bcatch\\b", "\\bsynchronized\\b", "\\bassert\\b", "->", "::", "\\w+Exact\\b",
        "\\bpackage\\b", "\\bequals\\b", "\\bhashCode\\b", "\\btoString\\b", "\\bMath\\.random\\b", "\\bSystem\\.(?!arraycopy)",
        "\\bThread\\b", "\\bObject\\b", "\\bprotected\\b", "\\bnative\\b", "\\bvolatile\\b",
    };

    private FaceTest() {
    }

    public static void main(String[] args) throws IOException {
        Due.part("the face");
        constants();
        members();
        Due.part("LANGUAGE.md");
        String source = Files.readString(source());
        String code = source.replaceAll("(?s)/\\*.*?\\*/", "").replaceAll("//[^\n]*", "");
        bannedWords(code);
        onlyConstructorsMake(code);
        shortMethods(source);
        Due.end();
    }

    private static Path source() {
        Path here = Path.of("src", "main", "java", "EvenWire.java");
        return Files.exists(here) ? here : Path.of("..").resolve(here);
    }

    private static void constants() {
        Due.is("NONE", EvenWire.NONE, -1);
        Due.is("BAD", EvenWire.BAD, -2);
        Due.is("NOT", EvenWire.NOT, -3);
        Due.is("FULL", EvenWire.FULL, -4);
        for (Field field : EvenWire.class.getDeclaredFields()) {
            boolean told = Set.of("NONE", "BAD", "NOT", "FULL").contains(field.getName());
            int wanted = told ? Modifier.PUBLIC | Modifier.STATIC | Modifier.FINAL : Modifier.PRIVATE;
            int mask = told ? -1 : Modifier.PUBLIC | Modifier.PROTECTED | Modifier.PRIVATE;
            Due.is("modifiers of " + field.getName(), field.getModifiers() & mask, wanted);
            staticsAreFinal(field);
        }
    }

    private static void staticsAreFinal(Field field) {
        int modifiers = field.getModifiers();
        Due.holds("static " + field + " is final", !Modifier.isStatic(modifiers) || Modifier.isFinal(modifiers));
    }

    private static void members() {
        Set<String> due = new TreeSet<>(Arrays.asList(FACE));
        Set<String> got = new TreeSet<>();
        Set<String> names = new HashSet<>();
        for (String one : FACE) {
            names.add(one.replaceAll("^\\w+ |\\(.*$", ""));
        }
        for (Method method : EvenWire.class.getDeclaredMethods()) {
            if (Modifier.isPublic(method.getModifiers())) {
                String types = Arrays.toString(method.getParameterTypes()).replaceAll("[\\[\\]]", "");
                got.add(method.getReturnType() + " " + method.getName() + "(" + types + ")");
            } else {
                Due.holds(method + " is private", Modifier.isPrivate(method.getModifiers()) || method.isSynthetic());
                Due.holds(method + " has a name of its own", !names.contains(method.getName()));
            }
        }
        Due.holds("the methods " + got + " are " + due, got.equals(due));
        Constructor<?>[] constructors = EvenWire.class.getDeclaredConstructors();
        Due.is("constructors", constructors.length, 1);
        Due.is("public", constructors[0].getModifiers(), Modifier.PUBLIC);
        Due.is("public final class", EvenWire.class.getModifiers() & (Modifier.PUBLIC | Modifier.FINAL), Modifier.PUBLIC | Modifier.FINAL);
        Class<?>[] inside = EvenWire.class.getDeclaredClasses();
        Due.holds("twelve classes at most", inside.length + 1 <= 12);
        for (Class<?> one : inside) {
            Due.holds(one + " is static", Modifier.isStatic(one.getModifiers()));
            Due.holds(one + " is not public", !Modifier.isPublic(one.getModifiers()));
            for (Field field : one.getDeclaredFields()) {
                staticsAreFinal(field);
            }
        }
    }

    private static void bannedWords(String code) {
        for (String banned : BANNED) {
            Due.holds("no " + banned, !Pattern.compile(banned).matcher(code).find());
        }
        Matcher imports = Pattern.compile("\\bimport\\s+([^;]+);").matcher(code);
        while (imports.find()) {
            String what = imports.group(1);
            Due.holds("import " + what, Set.of("java.util.Arrays", "java.util.ArrayList", "java.util.List", "java.util.Iterator").contains(what));
        }
    }

    /** All is made with the object, so that no call adds to the room of a run. */
    private static void onlyConstructorsMake(String code) {
        for (String line : code.split("\n")) {
            if (Pattern.compile("\\bnew\\b").matcher(line).find()) {
                boolean field = line.contains("private final");
                boolean inConstructor = line.matches("        \\w+ = new \\w+\\(\\);");
                Due.holds("made with the object: " + line.trim(), field || inConstructor);
            }
        }
    }

    private static void shortMethods(String source) {
        int start = 0;
        String[] lines = source.split("\n");
        for (int i = 0; i < lines.length; i++) {
            Matcher head = Pattern.compile("^( {4}| {8})\\S.*\\) \\{$").matcher(lines[i]);
            if (head.find()) {
                start = i;
            }
            if (lines[i].matches(" {4}\\}| {8}\\}") && i - start > 60) {
                Due.holds("60 lines at most: " + lines[start].trim(), lines[start].contains("class"));
            }
        }
    }
}
