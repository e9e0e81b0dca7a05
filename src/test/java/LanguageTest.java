import java.nio.file.Files;
import java.nio.file.Path;
import java.util.ArrayList;
import java.util.List;
import java.util.regex.Matcher;
import java.util.regex.Pattern;

/** What can be seen of LANGUAGE.md's rules in the source's text. */
public final class LanguageTest {
    private static int wrong = 0;

    private LanguageTest() {
    }

    private static void refuse(String rule, String what) {
        wrong++;
        System.out.println("rule " + rule + ": " + what);
    }

    public static void main(String[] args) throws Exception {
        String source = Files.readString(Path.of("src/main/java/ForkTown.java"));
        String code = source.replaceAll("(?s)/\\*.*?\\*/", "").replaceAll("//[^\n]*", "");
        words(code);
        face(code);
        methods(code);
        int classes = count(code, "\\bclass \\w+");
        if (classes > 12) {
            refuse("11", classes + " classes");
        }
        System.out.println(wrong == 0 ? "the source keeps to what can be seen of the rules" : wrong + " places do not keep to the rules");
        if (wrong != 0) {
            System.exit(1);
        }
    }

    private static int count(String text, String pattern) {
        int many = 0;
        Matcher m = Pattern.compile(pattern).matcher(text);
        while (m.find()) {
            many++;
        }
        return many;
    }

    private static void words(String code) {
        String[] never = {"throw", "throws", "try", "catch", "synchronized", "assert", "protected", "package", "Object", "HashMap",
            "Random", "System\\.(?!arraycopy)\\w+", "->", "::", "hashCode", "toString", "Exact\\(", "static \\{", "var"};
        for (String word : never) {
            String pattern = Character.isLetter(word.charAt(0)) ? "\\b" + word : word;
            Matcher m = Pattern.compile(pattern + (word.matches("\\w+") ? "\\b" : "")).matcher(code);
            if (m.find()) {
                refuse("4, 6", m.group());
            }
        }
        for (char c : code.toCharArray()) {
            if (c > 126) {
                refuse("4", "a sign above 126");
            }
        }
        Matcher imports = Pattern.compile("import ([\\w.]+);").matcher(code);
        while (imports.find()) {
            if (!imports.group(1).matches("java\\.util\\.(Arrays|ArrayList|List|Iterator)")) {
                refuse("4", imports.group());
            }
        }
    }

    private static void face(String code) {
        List<String> names = new ArrayList<>();
        Matcher m = Pattern.compile("\n    public (?:static final )?[\\w ]*?(\\w+)(?:\\(| =)").matcher(code);
        while (m.find()) {
            names.add(m.group(1));
        }
        if (names.size() != 32) {
            refuse("1", names.size() + " public members");
        }
        Matcher own = Pattern.compile("\n +private (?:static )?[\\w\\[\\]]+ (\\w+)\\(").matcher(code);
        while (own.find()) {
            if (names.contains(own.group(1))) {
                refuse("1", "a private method named " + own.group(1));
            }
        }
        Matcher fields = Pattern.compile("\n    (?!public|private|}|@)\\S[^\n]*").matcher(code);
        while (fields.find()) {
            refuse("1", "neither public nor private: " + fields.group().trim());
        }
        Matcher nested = Pattern.compile("\n    private (?!static final class)[^\n]*class [^\n]*").matcher(code);
        while (nested.find()) {
            refuse("2", nested.group().trim());
        }
    }

    private static void methods(String code) {
        String[] lines = code.split("\n");
        for (int i = 0; i < lines.length; i++) {
            Matcher m = Pattern.compile("^( {4}| {8})(?! |return|else|new)[\\w\\[\\] ]*\\b(\\w+)\\(([^)]*)\\) \\{$").matcher(lines[i]);
            if (!m.find() || m.group(2).matches("if|for|while|switch")) {
                continue;
            }
            int end = i;
            while (end < lines.length && !lines[end].equals(m.group(1) + "}")) {
                end++;
            }
            if (end - i > 60) {
                refuse("11", m.group(2) + " has " + (end - i) + " lines");
            }
            if (m.group(3).split(",").length > 7) {
                refuse("11", m.group(2) + " has too many parameters");
            }
        }
    }
}
