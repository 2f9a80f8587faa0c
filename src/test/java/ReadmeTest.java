import java.io.ByteArrayOutputStream;
import java.io.PrintStream;
import java.lang.reflect.Method;
import java.nio.file.Files;
import java.nio.file.Paths;
import java.util.regex.Matcher;
import java.util.regex.Pattern;

/** README.md: its example is Example.java, prints what stands there, and no call of the face is left out. */
public final class ReadmeTest {
    public static void main(String[] args) throws Exception {
        String readme = textOf("README.md");
        Check.due("there is an example", exampleOf(readme).length() > 0, true);
        Check.due("it is Example.java", textOf("src/test/java/Example.java").endsWith(exampleOf(readme)), true);
        Matcher told = Pattern.compile("println\\((.*)\\); +// (-?\\d+)\n").matcher(exampleOf(readme));
        String[] printed = printed().split("\\R");
        int i = 0;
        for (; told.find(); i++) {
            Check.due(told.group(1), i < printed.length ? Long.parseLong(printed[i]) : Long.MIN_VALUE,
                Long.parseLong(told.group(2)));
        }
        Check.due("lines printed", printed.length, i);
        for (Method method : StruckWords.class.getMethods()) {
            boolean isOfFace = method.getDeclaringClass() == StruckWords.class;
            Check.due("told of: " + method.getName(), !isOfFace || readme.contains("`" + method.getName() + "`"), true);
        }
        Check.end("ReadmeTest");
    }

    private static String exampleOf(String readme) {
        int from = readme.indexOf("```java\n");
        int to = readme.indexOf("```\n", from + 8);
        return from < 0 || to < 0 ? "" : readme.substring(from + 8, to);
    }

    private static String printed() {
        PrintStream out = System.out;
        ByteArrayOutputStream bytes = new ByteArrayOutputStream();
        System.setOut(new PrintStream(bytes, true));
        Example.main(new String[0]);
        System.setOut(out);
        return bytes.toString().strip();
    }

    private static String textOf(String path) throws Exception {
        return new String(Files.readAllBytes(Paths.get(path)), "UTF-8");
    }
}
