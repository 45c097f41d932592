import java.io.IOException;
import java.nio.file.Files;
import java.nio.file.Path;
import java.util.regex.Matcher;
import java.util.regex.Pattern;

/** The examples of README.md are one run on one object; each call answers what stands behind it. */
public final class ReadmeTest {
    private static final Pattern BLOCK = Pattern.compile("(?s)```java\n(.*?)```");
    private static final Pattern LINE = Pattern.compile("x\\.(\\w+\\([^)]*\\)); *// (-?\\w+)(?::.*)?");

    public static void main(String[] args) throws IOException {
        Due due = new Due();
        MaskedCopies x = new MaskedCopies();
        Matcher block = BLOCK.matcher(Files.readString(Path.of("README.md")));
        int calls = 0;
        while (block.find()) {
            for (String line : block.group(1).split("\n")) {
                if (line.isBlank() || line.equals("MaskedCopies x = new MaskedCopies();")) continue;
                Matcher form = LINE.matcher(line);
                due.holds("README.md tells the answer in: " + line, form.matches());
                if (!form.matches()) continue;
                ask(due, x, form.group(1).replace("MaskedCopies.", "") + " -> " + form.group(2));
                calls++;
            }
        }
        due.holds("README.md has examples", calls > 0);
        due.end();
    }

    private static void ask(Due due, MaskedCopies x, String script) {
        for (Call call : Call.parse(script)) {
            int got = call.on(x);
            due.holds("README.md tells " + script + ", but the answer is " + got, got == call.due);
        }
    }
}
