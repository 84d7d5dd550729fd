import java.nio.file.Files;
import java.nio.file.Path;
import java.util.List;
import java.util.regex.Matcher;
import java.util.regex.Pattern;

/** What of LANGUAGE.md can be seen in the text of the program. Run from the project's folder. */
public final class LanguageTest {
    private static final Due DUE = new Due();
    private static final int LONGEST_METHOD = 60;

    private static final String[] BARRED = {
        "\\bthrow\\b", "\\bthrows\\b", "\\btry\\b", "\\bcatch\\b", "\\bfinally\\b", "\\bsynchronized\\b", "\\bassert\\b",
        "->", "::", "\\bvar\\b", "\\bvolatile\\b", "\\btransient\\b", "\\bnative\\b", "\\bpackage\\b", "@",
        "\\bfloat\\b", "\\bdouble\\b", "Exact\\b", "\\bprotected\\b", "\\bThread\\b", "\\bRandom\\b",
        "\\bjava\\.io\\b", "\\bjava\\.nio\\b", "\\bSystem\\.(?!arraycopy)", "\\bMath\\.random\\b",
        "\\bhashCode\\b", "\\btoString\\b", "static \\{", "while *\\(true\\)", "for *\\(;;"
    };

    // what the program takes of the library today; LANGUAGE.md, rule 4, says what more it may take
    private static final List<String> LIBRARY = List.of(
            "Arrays.fill", "Integer.bitCount", "Math.abs", "Math.floorMod", "Math.max", "Math.min");

    private static String withoutComments(String text) {
        return text.replaceAll("(?s)/\\*.*?\\*/", "").replaceAll("//[^\n]*", "");
    }

    private static void barredWords(String code) {
        for (String word : BARRED) {
            Matcher matcher = Pattern.compile(word).matcher(code);
            DUE.holds("without " + word, !matcher.find());
        }
        Matcher imports = Pattern.compile("import ([^;]*);").matcher(code);
        while (imports.find()) {
            String name = imports.group(1);
            DUE.holds("import " + name, List.of("java.util.Arrays", "java.util.ArrayList", "java.util.List").contains(name));
        }
    }

    private static void library(String code) {
        Matcher used = Pattern.compile("(?<![\\w.])[A-Z][a-z]\\w*\\.\\w+").matcher(code);
        while (used.find()) DUE.holds("of the library: " + used.group(), LIBRARY.contains(used.group()));
    }

    private static void statics(String code) {
        for (String line : code.split("\n")) {
            if (!line.contains("static ") || line.contains("(") && line.contains("{")) continue;
            if (line.contains("class ")) continue;
            DUE.holds("a constant: " + line.trim(), line.contains("static final "));
        }
    }

    /** By the indent of a method's closing brace. */
    private static void lengths(String text) {
        String[] lines = text.split("\n");
        int start = -1;
        String indent = "";
        for (int i = 0; i < lines.length; i++) {
            String line = lines[i];
            boolean opens = line.matches(" +(public |private |static |final )*[\\w\\[\\]]+( \\w+)?\\([^;]*\\) \\{")
                    && !line.trim().matches("(if|for|while|switch|else).*");
            if (opens) {
                start = i;
                indent = line.substring(0, line.length() - line.stripLeading().length());
            } else if (start >= 0 && line.equals(indent + "}")) {
                DUE.holds("a short method: " + lines[start].trim(), i - start < LONGEST_METHOD);
                start = -1;
            }
        }
    }

    public static void main(String[] args) throws Exception {
        String text = Files.readString(Path.of("src/main/java/DoorStars.java"));
        for (int i = 0; i < text.length(); i++) {
            if (text.charAt(i) > 126) DUE.holds("a sign above 126 at " + i, false);
        }
        String code = withoutComments(text);
        barredWords(code);
        library(code.replaceAll("import [^;]*;", ""));
        statics(code);
        lengths(text);
        DUE.finish();
    }
}
