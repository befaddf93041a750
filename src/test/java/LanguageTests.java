import java.io.IOException;
import java.nio.file.Files;
import java.nio.file.Path;
import java.util.ArrayList;
import java.util.List;
import java.util.regex.Matcher;
import java.util.regex.Pattern;

/** Looks through the program for what LANGUAGE.md rules out, as far as words alone tell it. */
public final class LanguageTests {
    private static final List<String> FORBIDDEN = List.of("throw", "throws", "try", "catch", "finally", "synchronized",
            "assert", "package", "native", "volatile", "goto", "var", "Object", "Exception", "Random", "Thread",
            "HashMap", "Optional", "hashCode", "toString", "getClass", "nanoTime", "currentTimeMillis");
    private static final Pattern CALL = Pattern.compile("\\b(Math|Integer|Long|Arrays|System|String|List)\\.(\\w+)");
    private static final List<String> CALLS = List.of("Math.min", "Math.max", "Math.abs", "Integer.bitCount",
            "Integer.numberOfTrailingZeros", "Integer.numberOfLeadingZeros", "Integer.MAX_VALUE", "Integer.MIN_VALUE",
            "Arrays.fill", "Arrays.copyOf", "System.arraycopy");
    private static int wrong = 0;

    private static void fault(int line, String what) {
        wrong++;
        System.out.println("line " + line + ": " + what);
    }

    public static void main(String[] args) throws IOException {
        List<String> lines = new ArrayList<>();
        for (String line : Files.readAllLines(Path.of("src/main/java/FirstColour.java"))) {
            lines.add(line.replaceAll("\"[^\"]*\"", "\"\"").replaceAll("//.*|^\\s*/?\\*.*", ""));
        }
        int classes = 0;
        int methodFrom = -1;
        for (int i = 0; i < lines.size(); i++) {
            String line = lines.get(i);
            for (String word : line.split("\\W+")) {
                if (FORBIDDEN.contains(word)) {
                    fault(i + 1, word);
                }
            }
            if (line.contains("->") || line.contains("::")) {
                fault(i + 1, "a lambda or a method reference");
            }
            if (line.startsWith("import ") && !line.equals("import java.util.Arrays;")) {
                fault(i + 1, line);
            }
            Matcher call = CALL.matcher(line);
            while (call.find()) {
                if (!CALLS.contains(call.group())) {
                    fault(i + 1, call.group());
                }
            }
            if (line.matches(".*\\bclass \\w+.*\\{")) {
                classes++;
            } else if (line.matches("( {4}| {8})[A-Za-z].*\\(.*\\{")) {
                methodFrom = i;
            }
            if (line.matches(" {4}( {4})?\\}") && methodFrom >= 0) {
                if (i - methodFrom > 60) {
                    fault(methodFrom + 1, "a method of " + (i - methodFrom) + " lines");
                }
                methodFrom = -1;
            }
        }
        if (classes > 12) {
            fault(lines.size(), classes + " classes");
        }
        System.out.println(wrong == 0 ? "nothing that is ruled out stands there" : wrong + " faults");
        if (wrong != 0) {
            System.exit(1);
        }
    }
}
