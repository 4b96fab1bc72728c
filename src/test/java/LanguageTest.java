import java.io.IOException;
import java.nio.file.Files;
import java.nio.file.Path;
import java.util.List;
import java.util.regex.Matcher;
import java.util.regex.Pattern;

/** The rules of ../shared/LANGUAGE.md that the text of the class shows; it runs in the root of the project. */
public final class LanguageTest {

    private static final String[] NOT_ALLOWED = {
        "->", "::", "\\bcatch\\b", "\\bfinally\\b", "\\bsynchronized\\b", "\\bassert\\b", "\\bpackage\\b",
        "\\bSystem\\.(?!arraycopy\\b)", "\\bDouble\\b", "\\bFloat\\b", "\\bObject\\b", "\\bThread\\b", "\\bRandom\\b",
        "\\bMath\\.\\w+Exact\\b", "\\bequals\\(", "\\bhashCode\\b", "\\btoString\\b", "\\bprotected\\b", "\\bvar\\b",
        "\\bnative\\b", "\\bvolatile\\b", "\\btransient\\b", "\"\\s*\\+", "\\+\\s*\"", "\\bstatic\\s*\\{"};

    private static int wrong = 0;

    public static void main(String[] args) throws IOException {
        String text = Files.readString(Path.of("src/main/java/CoreLeases.java"));
        must(text.chars().allMatch(c -> c < 128), "a sign above 127");
        String code = text.replaceAll("(?s)/\\*.*?\\*/", "").replaceAll("//[^\n]*", "");
        for (String no : NOT_ALLOWED) {
            Matcher m = Pattern.compile(no).matcher(code);
            must(!m.find(), "not allowed: " + no);
        }
        Matcher imports = Pattern.compile("(?m)^import (.*);").matcher(code);
        while (imports.find()) {
            must(imports.group(1).equals("java.util.Arrays"), "import " + imports.group(1));
        }
        Matcher thrown = Pattern.compile("\\bthrow\\b(?! new I\\w+Exception\\(\"[^\"]*\"\\);)").matcher(code);
        must(!thrown.find(), "a throw of another form");
        onlyTheLibraryThatIsListed(code);
        fewParameters(code);
        noCallMakesAnything(code);
        shortMethods(text.lines().toList());
        System.out.println("things wrong with the text: " + wrong);
        System.exit(wrong == 0 ? 0 : 1);
    }

    private static void must(boolean holds, String what) {
        if (!holds) {
            wrong++;
            System.out.println("the text: " + what);
        }
    }

    private static void onlyTheLibraryThatIsListed(String code) {
        List<String> listed = List.of("Math.min", "Math.max", "Long.bitCount", "Arrays.fill", "System.arraycopy");
        Matcher used = Pattern.compile("\\b[A-Z][a-z]\\w*\\.\\w+").matcher(code);
        while (used.find()) {
            must(listed.contains(used.group()), "not listed: " + used.group());
        }
    }

    private static void fewParameters(String code) {
        Matcher heads = Pattern.compile("(?m)^ +[\\w \\[\\]]*\\w+\\(([^()]*)\\)[\\w\\s,]*\\{").matcher(code);
        while (heads.find()) {
            must(heads.group(1).split(",").length <= 7, "a method with more than seven parameters: " + heads.group());
        }
    }

    /** Objects are made for fields and in the constructor of the saved states alone: all calls share one room. */
    private static void noCallMakesAnything(String code) {
        for (String line : code.split("\n")) {
            boolean makes = line.contains(" new ") && !line.contains("throw new ");
            boolean inField = line.matches("\\s+(private )?final \\S+ \\w+ = new \\w+(\\[\\w+\\]|\\(\\));");
            must(!makes || inField || line.trim().equals("planes[i] = new Plane();"), "a call makes: " + line.trim());
        }
    }

    private static void shortMethods(List<String> lines) {
        int begin = -1;
        String indent = "";
        for (int i = 0; i < lines.size(); i++) {
            String line = lines.get(i);
            if (begin < 0 && line.matches("( {4}| {8})\\w[^=;]*\\(.*") && !line.contains("class ")) {
                begin = i;
                indent = line.substring(0, line.length() - line.stripLeading().length());
            } else if (begin >= 0 && line.equals(indent + "}")) {
                must(i - begin < 60, "a method of " + (i - begin + 1) + " lines: " + lines.get(begin).trim());
                begin = -1;
            }
        }
    }
}
