import java.lang.reflect.Method;
import java.util.HashMap;
import java.util.Map;
import java.util.regex.Matcher;
import java.util.regex.Pattern;

/**
 * Runs of calls in the notation of the document: "bundle(30, 12) -> 0, append('b') -> 1, up(0, 0) -> REFUSED".
 * A text is put into the input, sign by sign, by: type "t0;n5" -> 5, with the answer to the last append.
 * A run that is repeated stands as: 8 times crew(1) -> *, where * stands for any answer. Between calls there may stand:
 * look, which remembers all that can be asked; same, if all but the reasons and the fault position must be as then;
 * all same, if these must be too; and reads "1:4p0", for what must be the written line.
 */
final class Notation {
    private static final Pattern CALL = Pattern.compile(
        "\\s*(?:(\\d+) times )?(?:type \"([^\"]*)\"|(\\w+)\\(((?:'.'|[^)'])*)\\))\\s*->\\s*([-\\w.]+|\\*)\\s*(?:,|$)");
    private static final Pattern BETWEEN = Pattern.compile("\\s*(?:(look|same|all same)|reads \"([^\"]*)\")\\s*(?:,|$)");
    /** No more is promised of an object. */
    private static final int MOST_CALLS = 512;

    private static final Map<BambooTower, Integer> MADE = new HashMap<>();
    private static final Map<BambooTower, View> LOOKS = new HashMap<>();
    private static int calls = 0;
    private static int wrong = 0;

    private Notation() {
    }

    /** Makes the calls on a new tower and prints each whose answer is not the one that is due. */
    static BambooTower run(String title, String... parts) {
        BambooTower tower = new BambooTower();
        go(tower, title, parts);
        return tower;
    }

    static void go(BambooTower tower, String title, String... parts) {
        for (String part : parts) {
            Matcher call = CALL.matcher(part);
            Matcher between = BETWEEN.matcher(part);
            int end = 0;
            while (end < part.length()) {
                if (call.find(end) && call.start() == end) {
                    call(tower, title, call);
                    end = call.end();
                } else if (between.find(end) && between.start() == end) {
                    between(tower, title, between);
                    end = between.end();
                } else {
                    throw new IllegalArgumentException(title + ": what is meant by " + part.substring(end));
                }
            }
        }
        if (MADE.getOrDefault(tower, 0) > MOST_CALLS) {
            fail(title + ": more than " + MOST_CALLS + " calls");
        }
    }

    static void due(String call, double got, double want) {
        calls++;
        if (got != want) {
            wrong++;
            System.out.println(call + " answered " + got + ", due is " + want);
        }
    }

    static void due(String call, String got, String want) {
        calls++;
        if (!got.equals(want)) {
            wrong++;
            System.out.println(call + " answered " + got + ", due is " + want);
        }
    }

    static void fail(String what) {
        calls++;
        wrong++;
        System.out.println(what);
    }

    static String writtenLine(BambooTower tower) {
        StringBuilder line = new StringBuilder();
        int code = tower.written(0);
        while (code != BambooTower.NONE && line.length() < MOST_CALLS) {
            line.append((char) code);
            code = tower.written(line.length());
        }
        count(tower, line.length() + 1);
        return line.toString();
    }

    private static void count(BambooTower tower, int more) {
        MADE.merge(tower, more, Integer::sum);
    }

    static void end(String test) {
        System.out.println(test + ": " + calls + " answers, " + wrong + " not as due");
        if (wrong > 0 || calls == 0) {
            System.exit(1);
        }
    }

    private static void between(BambooTower tower, String title, Matcher matcher) {
        String word = matcher.group(1);
        if (word == null) {
            due(title + ": the written line", writtenLine(tower), matcher.group(2));
            return;
        }
        View view = new View(tower);
        count(tower, view.calls());
        if (word.equals("look")) {
            LOOKS.put(tower, view);
            return;
        }
        due(title + ": what is not as it was", view.differences(LOOKS.get(tower), word.equals("all same")), "");
    }

    private static void call(BambooTower tower, String title, Matcher matcher) {
        int times = matcher.group(1) == null ? 1 : Integer.parseInt(matcher.group(1));
        for (int i = 0; i < times; i++) {
            double got = matcher.group(2) != null ? type(tower, matcher.group(2))
                : invoke(tower, matcher.group(3), matcher.group(4));
            if (!matcher.group(5).equals("*")) {
                due(title + ": " + matcher.group().trim(), got, value(matcher.group(5)));
            }
        }
    }

    private static double type(BambooTower tower, String text) {
        int length = 0;
        count(tower, text.length());
        for (int i = 0; i < text.length(); i++) {
            length = tower.append(text.charAt(i));
        }
        return length;
    }

    private static double invoke(BambooTower tower, String name, String arguments) {
        count(tower, 1);
        String[] words = arguments.isBlank() ? new String[0] : arguments.split(",\\s*(?!')");
        for (Method method : BambooTower.class.getMethods()) {
            if (method.getName().equals(name) && method.getParameterCount() == words.length) {
                try {
                    return ((Number) method.invoke(tower, converted(words, method))).doubleValue();
                } catch (ReflectiveOperationException e) {
                    throw new IllegalStateException(name + "(" + arguments + ")", e);
                }
            }
        }
        throw new IllegalArgumentException("no method " + name + " with " + words.length + " arguments");
    }

    private static Object[] converted(String[] words, Method method) {
        Object[] values = new Object[words.length];
        for (int i = 0; i < words.length; i++) {
            Class<?> type = method.getParameterTypes()[i];
            String word = words[i].trim();
            if (type == boolean.class) {
                values[i] = Boolean.valueOf(word);
            } else if (type == char.class) {
                values[i] = word.startsWith("'") ? word.charAt(1) : (char) Integer.parseInt(word);
            } else {
                values[i] = Integer.valueOf(word);
            }
        }
        return values;
    }

    private static double value(String word) {
        switch (word) {
            case "NONE":
                return -1;
            case "BAD":
                return -2;
            case "REFUSED":
                return -3;
            case "NOTHING":
                return -4;
            default:
                return Double.parseDouble(word);
        }
    }
}
