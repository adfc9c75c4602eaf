import java.io.IOException;
import java.lang.reflect.Constructor;
import java.lang.reflect.Field;
import java.lang.reflect.Method;
import java.lang.reflect.Modifier;
import java.nio.file.Files;
import java.nio.file.Path;
import java.util.ArrayList;
import java.util.List;
import java.util.Set;
import java.util.TreeSet;
import java.util.regex.Matcher;
import java.util.regex.Pattern;

/** The public face with just its types, and rules of LANGUAGE.md that can be seen from outside or in the text. */
public final class FaceTest {
    private static final String[] METHODS = {
        "int clear()", "int append(char)", "int bundle(int,int)", "int strips(int)", "int build(int,int,int)",
        "int tie(int)", "int crew(int)", "int up(int,int)", "int down(int)", "int lift(int,int)", "int signal(int)",
        "int inspector(int)", "int inspect(int,int)", "int day(int)", "int script()", "int fault()",
        "int reason(int,boolean)", "int bundleOf(int,boolean)", "int storeyOf(int,int)", "int strength(int,boolean)",
        "int weakest()", "int oldest(int)", "int crewOf(int,int)", "int inspectorOf(int,int)", "int highest()",
        "int wouldFall(int)", "int oldIn(int)", "int doneIn(int)", "int describe()", "int written(int)",
        "int work(boolean)", "float meanStrength()", "double doneShare()", "int account(int)", "int undo()",
        "int save()", "int restore()"};
    private static final String[] BANNED = {
        "\\bimport\\b", "\\bpackage\\b", "->", "::", "\\btry\\b", "\\bcatch\\b", "\\bfinally\\b", "\\bsynchronized\\b",
        "\\bassert\\b", "\\bthrows?\\b", "\\bprotected\\b", "\\bSystem\\.(?!arraycopy)", "\\b\\w+Exact\\b", "\\bstatic \\{"};

    /** What the file may name of the library; its own classes are told by the text itself. */
    private static final Set<String> LIBRARY = Set.of("String", "Math.min", "Math.max", "Integer.bitCount", "System.arraycopy");
    private static final int MOST_PARAMETERS = 7;
    private static final int MOST_LINES = 60;

    private FaceTest() {
    }

    public static void main(String[] args) throws IOException {
        methods();
        membersBesides();
        classesInside();
        if (args.length > 0) {
            text(Files.readString(Path.of(args[0])));
        }
        Notation.end("FaceTest");
    }

    private static void methods() {
        Set<String> got = new TreeSet<>();
        for (Method method : BambooTower.class.getDeclaredMethods()) {
            if (!Modifier.isPrivate(method.getModifiers())) {
                got.add(Modifier.toString(method.getModifiers()) + " " + faceOf(method));
            }
        }
        Set<String> want = new TreeSet<>();
        for (String method : METHODS) {
            want.add("public " + method);
        }
        Notation.due("the methods", got.toString(), want.toString());
    }

    private static String faceOf(Method method) {
        List<String> types = new ArrayList<>();
        for (Class<?> type : method.getParameterTypes()) {
            types.add(type.getName());
        }
        return method.getReturnType().getName() + " " + method.getName() + "(" + String.join(",", types) + ")";
    }

    private static void membersBesides() {
        Notation.due("the class", Modifier.toString(BambooTower.class.getModifiers()), "public final");
        Set<String> fields = new TreeSet<>();
        for (Field field : BambooTower.class.getDeclaredFields()) {
            if (!Modifier.isPrivate(field.getModifiers())) {
                fields.add(Modifier.toString(field.getModifiers()) + " " + field.getType() + " " + field.getName());
            }
        }
        Notation.due("the constants", fields.toString(), "[public static final int BAD, public static final int NONE,"
            + " public static final int NOTHING, public static final int REFUSED]");
        Constructor<?>[] constructors = BambooTower.class.getDeclaredConstructors();
        Notation.due("the constructors", constructors.length, 1);
        Notation.due("the constructor", constructors[0].toString(), "public BambooTower()");
    }

    private static void classesInside() {
        Set<String> names = new TreeSet<>();
        for (String method : METHODS) {
            names.add(method.substring(method.indexOf(' ') + 1, method.indexOf('(')));
        }
        int classes = 1;
        noneNamed(names, BambooTower.class, true);
        for (Class<?> inside : BambooTower.class.getDeclaredClasses()) {
            classes++;
            noneNamed(names, inside, false);
            int modifiers = inside.getModifiers();
            Notation.due(inside + " is static", Modifier.isStatic(modifiers) ? 1 : 0, 1);
            Notation.due(inside + " is not public", Modifier.isPublic(modifiers) || Modifier.isProtected(modifiers) ? 1 : 0, 0);
            int fields = 0;
            for (Field field : inside.getDeclaredFields()) {
                fields += Modifier.isStatic(field.getModifiers()) ? 0 : 1;
            }
            Notation.due(inside + " has at most 20 fields", fields <= 20 ? 1 : 0, 1);
        }
        Notation.due("at most 12 classes", classes <= 12 ? 1 : 0, 1);
    }

    private static void noneNamed(Set<String> names, Class<?> owner, boolean isFace) {
        for (Method method : owner.getDeclaredMethods()) {
            if (method.getParameterCount() > MOST_PARAMETERS) {
                Notation.fail(method + " has more than " + MOST_PARAMETERS + " parameters");
            }
            if (names.contains(method.getName()) && !(isFace && Modifier.isPublic(method.getModifiers()))) {
                Notation.fail(method + " bears the name of a public method");
            }
        }
        for (Field field : owner.getDeclaredFields()) {
            if (Modifier.isStatic(field.getModifiers()) && !Modifier.isFinal(field.getModifiers())) {
                Notation.fail(field + " is static and not final");
            }
        }
    }

    private static void text(String source) {
        String bare = source.replaceAll("//[^\n]*", "");
        library(bare.replaceAll("\"[^\"\n]*\"", "\"\""));
        lengths(source);
        for (String banned : BANNED) {
            Matcher matcher = Pattern.compile(banned).matcher(bare);
            Notation.due("how often " + banned, matcher.results().count(), 0);
        }
        for (int i = 0; i < source.length(); i++) {
            if (source.charAt(i) > 126) {
                Notation.fail("a sign beyond 126 at " + i);
            }
        }
    }

    private static void library(String bare) {
        Set<String> own = new TreeSet<>();
        Pattern.compile("\\bclass (\\w+)").matcher(bare).results().forEach(found -> own.add(found.group(1)));
        Set<String> foreign = new TreeSet<>();
        Matcher name = Pattern.compile("\\b([A-Z]\\w*[a-z]\\w*)(\\.\\w+)?").matcher(bare);
        while (name.find()) {
            if (!own.contains(name.group(1)) && !LIBRARY.contains(name.group(1)) && !LIBRARY.contains(name.group())) {
                foreign.add(name.group());
            }
        }
        Notation.due("what is named of the library beyond " + LIBRARY, foreign.toString(), "[]");
    }

    private static void lengths(String source) {
        Pattern method = Pattern.compile("(?m)^( +)(?:\\w[\\w\\[\\] ]* )?(\\w+)\\([^;{}]*\\) \\{\n(?:.*\n)*?\\1\\}");
        Matcher found = method.matcher(source);
        int methods = 0;
        while (found.find()) {
            methods++;
            if (found.group().lines().count() > MOST_LINES) {
                Notation.fail(found.group(2) + " has more than " + MOST_LINES + " lines");
            }
        }
        Notation.due("methods were found", methods > METHODS.length ? 1 : 0, 1);
    }
}
