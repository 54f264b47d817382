import java.io.IOException;
import java.nio.file.Files;
import java.nio.file.Path;
import java.util.regex.Matcher;
import java.util.regex.Pattern;

/** The calls in README.md, one behind the other, answer what is told behind them. */
public final class ReadmeTest {
    private static final Pattern MADE = Pattern.compile("ChairAlley x = new ChairAlley\\(\\);");
    private static final Pattern WRITTEN = Pattern.compile("write\\(x, \"(.*)\"\\);");
    private static final Pattern CALLED = Pattern.compile("x\\.([a-zA-Z]+)\\((.*?)\\); *// (-?[0-9]+|true|false)\\b.*");

    public static void main(String[] args) throws IOException {
        Check k = null;
        int calls = 0;
        for (String line : Files.readAllLines(Path.of("README.md"))) {
            Matcher written = WRITTEN.matcher(line);
            Matcher called = CALLED.matcher(line);
            if (MADE.matcher(line).matches()) {
                k = new Check("README");
            } else if (k != null && written.matches()) {
                k.write(written.group(1));
            } else if (k != null && called.matches()) {
                k.due(line, call(k, called), answer(called.group(3)));
                calls++;
            } else if (line.startsWith("x.")) {
                new Check("README").due("a line that can't be read: " + line, 1, 0);
            }
        }
        new Check("README").due("calls told in README.md", calls > 20, true);
        Check.close("ReadmeTest");
    }

    private static long call(Check k, Matcher called) {
        int method = Face.method(called.group(1));
        int[] arguments = new int[Face.ARGUMENTS[method]];
        String[] told = called.group(2).split(", ");
        for (int i = 0; i < arguments.length; i++) {
            arguments[i] = Integer.decode(told[i]);
        }
        return Face.call(k.x, method, arguments);
    }

    private static long answer(String told) {
        return told.equals("true") ? 1 : told.equals("false") ? 0 : Long.parseLong(told);
    }
}
