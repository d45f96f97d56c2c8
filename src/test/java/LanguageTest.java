import java.nio.file.Files;
import java.nio.file.Path;
import java.util.Set;
import java.util.regex.Matcher;
import java.util.regex.Pattern;

/** What the text of the class shows of LANGUAGE.md's rules; .ci/run starts it at the project's root. */
public final class LanguageTest {
    private static final Check check = new Check();
    private static final Set<String> LIBRARY = Set.of("Math.max", "Math.min", "Math.abs", "Integer.bitCount");

    public static void main(String[] args) throws Exception {
        String source = Files.readString(Path.of("src/main/java/WovenRows.java"));
        for (int i = 0; i < source.length(); i++) {
            char sign = source.charAt(i);
            check.holds("sign " + (int) sign + " at " + i + " is plain", sign == '\n' || sign >= 32 && sign < 127);
        }
        String code = source.replaceAll("(?s)/\\*.*?\\*/", "").replaceAll("//[^\n]*", "").replaceAll("'.'", "' '");
        words(code);
        library(code);
        methodsAreShort(code);
        check.end();
    }

    private static void words(String code) {
        String[] not = {"import", "package", "synchronized", "assert", "finally", "try", "catch", "throw", "throws",
            "float", "double", "protected", "volatile", "transient", "native", "instanceof", "String", "var",
            "hashCode", "equals", "toString", "getClass", "System", "Object"};
        for (String word : not) {
            check.holds("no " + word, !Pattern.compile("\\b" + word + "\\b").matcher(code).find());
        }
        check.holds("no lambda", !code.contains("->"));
        check.holds("no method reference", !code.contains("::"));
        check.holds("no static block", !Pattern.compile("static\\s*\\{").matcher(code).find());
        check.holds("no loop without a bound", !Pattern.compile("for\\s*\\(\\s*;|\\bwhile\\b").matcher(code).find());
    }

    private static void library(String code) {
        Matcher calls = Pattern.compile("\\b([A-Z][a-z]\\w*)\\.([a-z]\\w*)\\(").matcher(code);
        while (calls.find()) {
            String call = calls.group(1) + "." + calls.group(2);
            boolean own = Pattern.compile("class " + calls.group(1) + "\\b").matcher(code).find();
            check.holds(call + " is allowed", own || LIBRARY.contains(call));
        }
    }

    private static void methodsAreShort(String code) {
        String[] lines = code.split("\n");
        int begun = -1;
        int indent = 0;
        for (int i = 0; i < lines.length; i++) {
            Matcher head = Pattern.compile("^( +)(?:[a-z]+ )*[\\w\\[\\]]+ ?\\w*\\([^;]*\\) \\{$").matcher(lines[i]);
            if (begun < 0 && head.find() && !lines[i].trim().matches("(if|for|switch).*")) {
                begun = i;
                indent = head.group(1).length();
            } else if (begun >= 0 && lines[i].equals(" ".repeat(indent) + "}")) {
                check.holds("short: " + lines[begun].trim(), i - begun + 1 <= 60);
                begun = -1;
            }
        }
        check.holds("every method's end is found", begun < 0);
    }
}
