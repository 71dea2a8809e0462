import java.io.IOException;
import java.nio.file.Files;
import java.nio.file.Path;
import java.util.List;
import java.util.regex.Matcher;
import java.util.regex.Pattern;

/** What of LANGUAGE.md can be seen in the text of the program. Run from the project's folder. */
public final class LanguageTest {
    private static final String[] FORBIDDEN = {
        "throw", "throws", "try", "catch", "synchronized", "assert", "package", "protected", "Exact", "lambda",
        "hashCode", "toString", "random", "Thread", "double", "float", "Object", "String", "\"", "->", "::",
        "System\\.(?!arraycopy\\b)", "Math\\.(?!floorMod\\b|max\\b|min\\b)", "Arrays\\.(?!fill\\b)",
        "(?<!import )java\\.", "Integer\\.(?!bitCount\\b)", "Long\\.(?!numberOfLeadingZeros\\b)", "static \\{"};

    private LanguageTest() {
    }

    public static void main(String[] args) throws IOException {
        Path file = Path.of("src/main/java/RoundMill.java");
        String text = Files.readString(file);
        for (int i = 0; i < text.length(); i++) {
            Due.yes("character " + i, text.charAt(i) < 128);
        }
        String code = text.replaceAll("(?s)/\\*.*?\\*/", " ").replaceAll("//[^\n]*", " ");
        for (String word : FORBIDDEN) {
            boolean plain = word.matches("\\w+");
            Matcher found = Pattern.compile(plain ? "\\b" + word + "\\b" : word).matcher(code);
            Due.no("the program has " + word, found.find());
        }
        Due.yes("one import", code.indexOf("import") == code.lastIndexOf("import"));
        Due.yes("it is of Arrays", code.contains("import java.util.Arrays;"));
        seeMethods(Files.readAllLines(file));
        Due.end();
    }

    /** Methods stand four or eight blanks in, and end with a brace at the same place. */
    private static void seeMethods(List<String> lines) {
        int methods = 0;
        for (int i = 0; i < lines.size(); i++) {
            Due.yes("line " + (i + 1) + " is short", lines.get(i).length() <= 120);
            Matcher head = Pattern.compile("^( {4}| {8})\\w[\\w\\[\\]<>. ]*\\(.*\\) \\{$").matcher(lines.get(i));
            if (head.find()) {
                int end = i;
                while (!lines.get(end).equals(head.group(1) + "}")) {
                    end++;
                }
                methods++;
                Due.yes("method at line " + (i + 1) + " is short", end - i <= 60);
            }
        }
        Due.yes("methods are found", methods > 80);
    }
}
