import java.nio.file.Files;
import java.nio.file.Path;
import java.nio.file.Paths;
import java.util.Arrays;
import java.util.List;
import java.util.regex.Matcher;
import java.util.regex.Pattern;

/** Such rules of LANGUAGE.md as can be seen in the source; how its methods look is looked at line by line. */
public final class LanguageTest {
    private static final Path SOURCE = Paths.get("src/main/java/StruckWords.java");

    /** What stands in no program that keeps to the rules, or only with a care that is not needed here. */
    private static final String[] UNWANTED = {"\\bcatch\\b", "\\btry\\b", "\\bfinally\\b", "->", "::", "\\bsynchronized\\b",
        "\\bassert\\b", "\\bpackage\\b", "\\bArrayList\\b", "\\binstanceof\\b", "\\bdouble\\b", "\\bfloat\\b", "[^\\x00-\\x7f]",
        "\\bstatic \\{", "\\bequals\\(", "\\bhashCode\\(", "\\btoString\\(", "\\bprotected\\b", "\\bvar\\b", "\\bvolatile\\b"};

    /** Of rule 4 what is used; another one is looked up there ahead of being added here. */
    private static final List<String> LIBRARY = Arrays.asList("Arrays.fill", "Integer.bitCount", "Math.max", "Math.min",
        "System.arraycopy");

    private static final List<String> IMPORTS = Arrays.asList("java.util.Arrays", "java.util.NoSuchElementException");

    public static void main(String[] args) throws Exception {
        String source = new String(Files.readAllBytes(SOURCE), "ISO-8859-1");
        String code = source.replaceAll("(?s)/\\*.*?\\*/", "").replaceAll("//[^\n]*", "");
        unwanted(source, code);
        library(code);
        statics(code);
        for (String method : code.split("\n(?=(?:    ){1,2}(?:private |public )?[^\n=;]*\\) (?:throws \\w+ )?\\{\n)")) {
            divisors(method);
            newObjects(method);
            lines(method);
        }
        Check.end("LanguageTest");
    }

    private static void unwanted(String source, String code) {
        for (String one : UNWANTED) {
            String where = one.startsWith("[") ? source : code;
            Check.due("the source has " + one, Pattern.compile(one).matcher(where).find(), false);
        }
        Matcher thrown = Pattern.compile("\\bthrow\\b([^;]*);").matcher(code);
        while (thrown.find()) {
            Check.due(thrown.group(), thrown.group(1).matches(" new NoSuchElementException\\(\"[^\"]*\"\\)"), true);
        }
    }

    private static void library(String code) {
        Matcher imports = Pattern.compile("import (\\S+);").matcher(code);
        while (imports.find()) {
            Check.due("import of " + imports.group(1), IMPORTS.contains(imports.group(1)), true);
        }
        Matcher used = Pattern.compile("\\b(?:Arrays|Integer|Long|Math|System|String|Character)\\.\\w+").matcher(code);
        while (used.find()) {
            Check.due("use of " + used.group(), LIBRARY.contains(used.group()), true);
        }
    }

    private static void statics(String code) {
        Matcher fields = Pattern.compile("\n *([^\n(]*\\bstatic\\b[^\n(]*=[^\n]*)").matcher(code);
        int seen = 0;
        while (fields.find()) {
            Check.due("final: " + fields.group(1), fields.group(1).contains("static final "), true);
            seen++;
        }
        Check.due("static fields are seen", seen > 40, true);
    }

    /** A divisor is a constant, or was looked at in the same method ahead of it. */
    private static void divisors(String method) {
        Matcher divided = Pattern.compile("[/%]=? *([^ ;)]+)").matcher(method);
        while (divided.find()) {
            String by = divided.group(1);
            String ahead = method.substring(0, divided.start());
            boolean isConstant = by.matches("[A-Z][A-Z_]*|[1-9][0-9]*");
            boolean isLookedAt = by.matches("\\w+")
                && Pattern.compile("\\b" + by + " (> 0|> 1|<= 0|< 1)\\b").matcher(ahead).find();
            Check.due("the divisor of '" + divided.group() + "' is looked at", isConstant || isLookedAt, true);
        }
    }

    /** What is made is made with the object itself: by a field's first value or by a constructor. */
    private static void newObjects(String method) {
        boolean isConstructor = method.matches("(?s)\\s*(public )?(StruckWords|Row|Tongue|Matter|Keyword)\\([^)]*\\) \\{.*");
        String inside = method.replaceAll("throw new \\w+", "").replaceAll("\n[^\n]*\\bfinal [^\n]* = new [^\n]*", "");
        Check.due("nothing is made in " + firstLine(method), !isConstructor && inside.matches("(?s).*\\bnew \\w.*"), false);
    }

    private static void lines(String method) {
        if (method.contains(") {\n")) {
            String body = method.substring(method.indexOf(") {\n"));
            Matcher close = Pattern.compile("\n(?:    ){1,2}\\}\n").matcher(body + "\n");
            int to = close.find() ? close.start() : body.length();
            long lines = body.substring(0, to).chars().filter(c -> c == '\n').count();
            Check.due(firstLine(method) + " has sixty lines at most, not " + lines, lines <= 60, true);
        }
    }

    private static String firstLine(String method) {
        return "'" + method.strip().split("\n")[0].strip() + "'";
    }
}
