import java.lang.reflect.InvocationTargetException;
import java.lang.reflect.Method;
import java.util.ArrayList;
import java.util.Arrays;
import java.util.HashMap;
import java.util.List;
import java.util.Map;
import java.util.regex.Matcher;
import java.util.regex.Pattern;

/**
 * A call as a text, in the form in which issues tell of runs: "column(0, 2, 0) -> 1". Calls stand on lines
 * of their own or behind a ";". "fill(t, ..)" is short for the cells of a row and the row() that takes them.
 */
final class Call {
    private static final Pattern FORM = Pattern.compile("(\\w+)\\(([^)]*)\\)(?:\\s*->\\s*(\\S+))?");
    private static final Map<String, Integer> NAMED = Map.of("NONE", -1, "BAD", -2, "STATE", -3, "FULL", -4,
        "MISSING", Integer.MIN_VALUE, "MAX", Integer.MAX_VALUE);
    private static final Map<String, Method> METHODS = new HashMap<>();

    static {
        for (Method method : MaskedCopies.class.getDeclaredMethods()) METHODS.put(method.getName(), method);
    }

    final String text;
    final String name;
    /** What is due, or null where no more is due than that the call is not refused. */
    final Integer due;
    private final Object[] args;

    private Call(String name, Integer due, int... args) {
        this.name = name;
        this.due = due;
        this.args = Arrays.stream(args).boxed().toArray();
        this.text = name + Arrays.toString(args).replace('[', '(').replace(']', ')');
    }

    static List<Call> parse(String script) {
        List<Call> calls = new ArrayList<>();
        for (String part : script.split("[;\n]")) {
            String text = part.strip();
            if (text.isEmpty()) continue;
            Matcher form = FORM.matcher(text);
            if (!form.matches()) throw new IllegalArgumentException("no call: " + text);
            add(calls, form.group(1), numbers(form.group(2)), form.group(3) == null ? null : number(form.group(3)));
        }
        return calls;
    }

    private static void add(List<Call> calls, String name, int[] args, Integer due) {
        if (name.equals("fill")) {
            for (int i = 1; i < args.length; i++) calls.add(new Call("cell", i, args[i]));
            calls.add(new Call("row", due, args[0]));
        } else if (METHODS.containsKey(name)) {
            calls.add(new Call(name, due, args));
        } else {
            throw new IllegalArgumentException("no such call: " + name);
        }
    }

    private static int[] numbers(String text) {
        if (text.isBlank()) return new int[0];
        return Arrays.stream(text.split(",")).mapToInt(Call::number).toArray();
    }

    private static int number(String text) {
        Integer named = NAMED.get(text.strip());
        return named == null ? Integer.parseInt(text.strip()) : named;
    }

    int on(MaskedCopies x) {
        try {
            return (Integer) METHODS.get(name).invoke(x, args);
        } catch (InvocationTargetException thrown) {
            throw new IllegalStateException(text + " threw " + thrown.getCause(), thrown);
        } catch (IllegalAccessException hidden) {
            throw new IllegalStateException(text + " is not public", hidden);
        }
    }

    static boolean isRefusal(int answer) {
        return answer >= -4 && answer <= -1;
    }
}
