import java.nio.charset.StandardCharsets;
import java.nio.file.Files;
import java.nio.file.Paths;
import java.util.regex.Matcher;
import java.util.regex.Pattern;

/** What can be read of LANGUAGE.md's rules from the program's text; it runs in the project's folder. */
public final class LanguageTest {
    public static void main(String[] args) throws Exception {
        String text = new String(Files.readAllBytes(Paths.get("src/main/java/RopeSwing.java")), StandardCharsets.UTF_8);
        String bare = text.replaceAll("(?s)/\\*.*?\\*/", "").replaceAll("//[^\n]*", "").replaceAll("\"[^\"]*\"", "\"\"").replaceAll("'[^']*'", "' '");
        none(bare, "\\b(throw|throws|try|catch|synchronized|assert|volatile|transient|native|package)\\b");
        none(bare, "->|::");
        none(bare, "\\b(Object|Exception|Thread|Random|System\\.(?!arraycopy)|Class|HashMap|Scanner)\\b");
        none(bare, "\\b(equals|hashCode|toString)\\(\\)");
        none(bare, "\\w+Exact\\b");
        none(bare, "\"\"\\s*\\+|\\+\\s*\"\"");
        none(bare, "new\\s+\\w+\\([^)]*\\)\\s*\\{");
        none(bare, "while\\s*\\(true\\)|for\\s*\\(;;\\)");
        none(bare, "static\\s*\\{");
        Matcher imports = Pattern.compile("import ([^;]*);").matcher(bare);
        while (imports.find()) {
            Check.holds("import " + imports.group(1), imports.group(1).equals("java.util.Arrays"));
        }
        for (int i = 0; i < text.length(); i++) {
            if (text.charAt(i) > 126) {
                Check.holds("a sign beyond 126 at " + i, false);
            }
        }
        methods(bare);
        Check.end("LanguageTest");
    }

    private static void none(String bare, String pattern) {
        Matcher m = Pattern.compile(pattern).matcher(bare);
        Check.holds("nothing of " + pattern + " stands there", !m.find());
    }

    /** A method has sixty lines and seven parameters at most. */
    private static void methods(String bare) {
        Matcher m = Pattern.compile("(?m)^( +)(?:(?:public|private|static|final) )*(?:\\w+(?:\\[\\])* )?(\\w+)\\(([^)]*)\\) \\{$").matcher(bare);
        int many = 0;
        while (m.find()) {
            if (m.group(2).equals("if") || m.group(2).equals("for") || m.group(2).equals("while") || m.group(2).equals("switch")) {
                continue;
            }
            many++;
            int end = bare.indexOf("\n" + m.group(1) + "}", m.end());
            long lines = bare.substring(m.start(), end).lines().count() + 1;
            Check.holds(m.group(2) + " has " + lines + " lines", lines <= 60);
            Check.holds(m.group(2) + " has too many parameters", m.group(3).split(",").length <= 7);
        }
        Check.holds("methods were found: " + many, many > 60);
    }
}
