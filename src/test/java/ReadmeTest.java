import java.io.IOException;
import java.lang.reflect.Method;
import java.lang.reflect.Modifier;
import java.nio.file.Files;
import java.nio.file.Path;
import java.util.Map;
import java.util.TreeMap;
import java.util.regex.Matcher;
import java.util.regex.Pattern;

/** README.md tells every call of the face, what it may throw in the right order, and an example that is true. */
public final class ReadmeTest {
    private static final Path README = Path.of("README.md");
    private static final Pattern ROW = Pattern.compile("^\\| `(\\w+)\\((.*?)\\)` \\| .* \\| (.*) \\|$", Pattern.MULTILINE);
    private static final Pattern TERM = Pattern.compile("\\b(Bad|Missing|Refused|Full)[.:]");
    private static final Map<String, String> TERMS = Map.of(
            "IllegalArgumentException", "Bad", "NoSuchElementException", "Missing",
            "IllegalStateException", "Refused", "UnsupportedOperationException", "Full");

    private static int at = 0;

    public static void main(String[] args) throws IOException {
        String readme = Files.readString(README);
        Check.due("the calls and what they throw", toldCalls(readme).toString(), callsOfTheFace().toString());
        theExampleIsTrue(readme);
        Check.end();
    }

    private static Map<String, String> toldCalls(String readme) {
        Map<String, String> calls = new TreeMap<>();
        Matcher row = ROW.matcher(readme);
        while (row.find()) {
            int parameters = row.group(2).isEmpty() ? 0 : row.group(2).split(",").length;
            StringBuilder terms = new StringBuilder();
            Matcher term = TERM.matcher(row.group(3));
            while (term.find()) {
                terms.append(' ').append(term.group(1));
            }
            calls.put(row.group(1), parameters + terms.toString());
        }
        return calls;
    }

    private static Map<String, String> callsOfTheFace() {
        Map<String, String> calls = new TreeMap<>();
        for (Method method : JournaledFiles.class.getDeclaredMethods()) {
            if (Modifier.isPublic(method.getModifiers())) {
                StringBuilder terms = new StringBuilder();
                for (Class<?> thrown : method.getExceptionTypes()) {
                    terms.append(' ').append(TERMS.get(thrown.getSimpleName()));
                }
                calls.put(method.getName(), method.getParameterCount() + terms.toString());
            }
        }
        return calls;
    }

    /** Each call of the example, with what the README says of it, in the README's order. */
    private static void theExampleIsTrue(String readme) {
        JournaledFiles files = new JournaledFiles();
        told(readme, "files.directory(0x01);", "answers 1,");
        Check.due("directory", files.directory(0x01), 1);
        told(readme, "files.open(0x0102, 3, true, false, false);", "answers 0,");
        Check.due("open", files.open(0x0102, 3, true, false, false), 0);
        told(readme, "files.write(0, 0x6968, 2);", "");
        files.write(0, 0x6968, 2);
        told(readme, "files.seek(0, 0);", "");
        files.seek(0, 0);
        told(readme, "files.read(0, 8);", "answers 0x6968:");
        Check.due("read", files.read(0, 8), 0x6968);
        told(readme, "files.commit();", "answers 13: six blocks");
        Check.due("differing", files.count(3), 6);
        Check.due("commit", files.commit(), 13);
        told(readme, "files.truncate(0x0102, 0);", "");
        files.truncate(0x0102, 0);
        told(readme, "files.crash();", "");
        files.crash();
        told(readme, "files.stat(0x0102, 1);", "answers 2,");
        Check.due("stat", files.stat(0x0102, 1), 2);
        told(readme, "files.read(0, 8);", "throws IllegalStateException");
        Check.refused("read after the crash", () -> files.read(0, 8));
        Check.due("calls behind the last one", readme.indexOf("\nfiles.", at), -1);
    }

    private static void told(String readme, String call, String said) {
        int start = readme.indexOf("\nfiles.", at) + 1;
        at = readme.indexOf('\n', start);
        String line = start > 0 && at > 0 ? readme.substring(start, at) : "nothing";
        boolean isTold = line.startsWith(call) && line.contains(said);
        Check.due("the example's next line, " + line + ", is " + call + " " + said, isTold ? 1 : 0, 1);
    }
}
