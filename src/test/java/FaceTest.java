import java.io.IOException;
import java.lang.reflect.Constructor;
import java.lang.reflect.Field;
import java.lang.reflect.Method;
import java.lang.reflect.Modifier;
import java.nio.file.Files;
import java.nio.file.Path;
import java.util.Arrays;
import java.util.HashSet;
import java.util.Map;
import java.util.Set;
import java.util.TreeMap;
import java.util.regex.Pattern;

/** The public face, the rules of LANGUAGE.md that a test can see, and that no call ever throws. */
public final class FaceTest {
    private static final Due due = new Due();
    private static final String FACE = "table0 column3 cell1 row1 wipe0 owner2 mask4 dial5 seed1 order3 agree6 found2"
        + " unrule0 broken1 make0 at4 turned3 shift1 count4 joins3 miss2 could3 alike2 sure4 loss2 best3 about3 all1";

    public static void main(String[] args) throws IOException, ReflectiveOperationException {
        methods();
        fieldsAndConstructors();
        source();
        anyArguments();
        due.end();
    }

    private static void methods() {
        Set<String> wanted = new HashSet<>(Arrays.asList(FACE.split(" ")));
        Set<String> names = new HashSet<>();
        for (String name : wanted) names.add(name.replaceAll("[0-9]", ""));
        Set<String> seen = new HashSet<>();
        for (Method method : MaskedCopies.class.getDeclaredMethods()) {
            if (method.isSynthetic()) continue;
            boolean isPublic = Modifier.isPublic(method.getModifiers());
            due.holds(method + " is public or private", isPublic || Modifier.isPrivate(method.getModifiers()));
            due.holds(method + " bears a public name only if it is public", isPublic || !names.contains(method.getName()));
            due.holds(method + " has seven parameters at most", method.getParameterCount() <= 7);
            if (!isPublic) continue;
            seen.add(method.getName() + method.getParameterCount());
            due.holds(method + " answers an int", method.getReturnType() == int.class);
            for (Class<?> type : method.getParameterTypes()) due.holds(method + " takes ints", type == int.class);
        }
        due.holds("the public methods are those of the document: " + seen, seen.equals(wanted));
        due.holds("the class is public and final", (MaskedCopies.class.getModifiers() & 17) == 17);
    }

    private static void fieldsAndConstructors() throws ReflectiveOperationException {
        Map<String, Integer> constants = new TreeMap<>();
        for (Field field : MaskedCopies.class.getDeclaredFields()) {
            boolean isPublic = Modifier.isPublic(field.getModifiers());
            due.holds(field + " is public or private", isPublic || Modifier.isPrivate(field.getModifiers()));
            if (Modifier.isStatic(field.getModifiers())) due.holds(field + " is final", Modifier.isFinal(field.getModifiers()));
            if (isPublic) constants.put(field.getName(), field.getInt(null));
        }
        due.holds("the constants: " + constants, constants.toString()
            .equals("{BAD=-2, FULL=-4, MISSING=-2147483648, NONE=-1, STATE=-3}"));
        Constructor<?>[] all = MaskedCopies.class.getDeclaredConstructors();
        due.holds("one constructor, public and without parameters", all.length == 1
            && all[0].getParameterCount() == 0 && Modifier.isPublic(all[0].getModifiers()));
        for (Class<?> inner : MaskedCopies.class.getDeclaredClasses())
            due.holds(inner + " is static", Modifier.isStatic(inner.getModifiers()));
    }

    private static void source() throws IOException {
        String text = Files.readString(Path.of("src/main/java/MaskedCopies.java"));
        String code = text.replaceAll("(?s)/\\*.*?\\*/", " ").replaceAll("//[^\n]*", " ");
        String[] banned = {"throw", "throws", "try", "catch", "finally", "synchronized", "assert", "import", "package",
            "double", "float", "equals", "hashCode", "toString", "System", "Random", "Thread", "Object"};
        for (String word : banned)
            due.holds("no '" + word + "' in the class", !Pattern.compile("\\b" + word + "\\b").matcher(code).find());
        due.holds("no lambda and no method reference", !code.contains("->") && !code.contains("::"));
        due.holds("no name that ends in Exact", !Pattern.compile("Exact\\b").matcher(code).find());
        due.holds("signs 1 to 127 alone", text.chars().allMatch(sign -> sign >= 1 && sign <= 127));
    }

    private static void anyArguments() throws ReflectiveOperationException {
        int[] numbers = {Integer.MIN_VALUE, Integer.MIN_VALUE + 1, -10000, -2, -1, 0, 1, 2, 3, 4, 5, 6, 7, 8, 11, 12, 13,
            31, 32, 33, 63, 64, 99, 100, 1000, 1001, 9999, 10000, 12340, 99990, 100000, Integer.MAX_VALUE};
        long state = 1;
        for (int run = 0; run < 300; run++) {
            MaskedCopies x = run % 3 == 0 ? new MaskedCopies() : filled(run);
            for (Method method : MaskedCopies.class.getMethods()) {
                if (method.getDeclaringClass() != MaskedCopies.class) continue;
                for (int i = 0; i < 18; i++) {
                    Object[] args = new Object[method.getParameterCount()];
                    for (int p = 0; p < args.length; p++) {
                        state = state * 6364136223846793005L + 1442695040888963407L;
                        args[p] = numbers[(int) ((state >>> 33) % numbers.length)];
                    }
                    // What it throws would come out here and end the test.
                    method.invoke(x, args);
                }
            }
            due.holds("the object still answers", x.all(0) >= 0);
        }
    }

    private static MaskedCopies filled(int run) {
        MaskedCopies x = new MaskedCopies();
        for (int t = 0; t < 4; t++) x.table();
        for (int t = 0; t < 4; t++) for (int c = 1; c < 6; c++) x.column(t, c < 5 ? c : 2, c == 1 ? (t + run) % 4 : 0);
        for (int t = 0; t < 4; t++) for (int r = 0; r < 12; r++) {
            int key = r < 10 ? 1000 * r + 2 * r % 10 : 10001 * (r - 9);
            due.row(x, t, key, 12340, 830 * r, 99 * r, 8 * r, r);
        }
        return x;
    }
}
