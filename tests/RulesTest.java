import java.io.IOException;
import java.nio.charset.StandardCharsets;
import java.nio.file.Files;
import java.nio.file.Paths;
import java.util.Arrays;
import java.util.List;
import java.util.regex.Matcher;
import java.util.regex.Pattern;

/** Those rules of LANGUAGE.md for the class's source that can be told from its words and lines. */
final class RulesTest {
    private static final String[] NEVER = {"->", "::", "synchronized", "finally", "assert", "yield", "Random", "Thread",
        "System\\.(?!arraycopy)", "\\bcatch\\b", "\\btry\\b", "getMessage", "protected", "hashCode", "toString", "package ",
        "\\bObject\\b", "String\\.", "\\.stream", "Exact", "\\+ \"", "\" \\+", "static \\{", "volatile", "\\bvar\\b"};
    private static final List<String> IMPORTS = Arrays.asList("import java.util.ArrayList;", "import java.util.Arrays;");
    private static final Pattern METHOD =
        Pattern.compile("^    (?:    )?(?:public |private |static |final )*[\\w<>\\[\\]]* ?\\w+\\(.*$");

    private RulesTest() {
    }

    private static String withoutComments(String text) {
        return text.replaceAll("(?s)/\\*.*?\\*/", "").replaceAll("//[^\n]*", "");
    }

    private static void looksForWords(String code) {
        for (String word : NEVER) {
            Check.is("no " + word, false, Pattern.compile(word).matcher(code).find());
        }
        for (String line : code.split("\n")) {
            if (line.startsWith("import")) {
                Check.is(line, true, IMPORTS.contains(line));
            }
        }
        for (char sign : code.toCharArray()) {
            if (sign > 127) {
                Check.is("a sign", 127, sign);
            }
        }
    }

    private static void looksForThrows(String code) {
        Matcher thrown = Pattern.compile("throw (.*)").matcher(code);
        Pattern due = Pattern.compile(
            "new (IllegalState|IllegalArgument|IndexOutOfBounds)Exception\\(\"[\\w ]+\"\\);");
        while (thrown.find()) {
            Check.is("throw " + thrown.group(1), true, due.matcher(thrown.group(1)).matches());
        }
    }

    private static void looksAtSizes(List<String> lines) {
        int start = -1;
        for (int i = 0; i < lines.size(); i++) {
            String line = lines.get(i);
            boolean opens = METHOD.matcher(line).matches() && !line.trim().startsWith("return");
            if (opens && !line.contains(";")) {
                start = i;
            }
            if (start >= 0 && (line.equals("    }") || line.equals("        }"))) {
                int length = i - start + 1;
                Check.is("the method at line " + (start + 1) + " has " + length + " lines", true, length <= 60);
                start = -1;
            }
            Check.is("line " + (i + 1) + " fits", true, line.length() <= 120);
        }
    }

    private static int count(String code, String what) {
        Matcher found = Pattern.compile(what).matcher(code);
        int count = 0;
        while (found.find()) {
            count++;
        }
        return count;
    }

    public static void main(String[] args) throws IOException {
        String source = args.length > 0 ? args[0] : "src/main/java/Leasehall.java";
        String text = new String(Files.readAllBytes(Paths.get(source)), StandardCharsets.UTF_8);
        String code = withoutComments(text);
        looksForWords(code);
        looksForThrows(code);
        looksAtSizes(Arrays.asList(text.split("\n")));
        Check.is("one public class", 1, count(code, "public (final )?class"));
        Check.is("at most twelve classes", true, count(code, "\\bclass \\w+") <= 12);
        Check.end("rules of the language");
    }
}
