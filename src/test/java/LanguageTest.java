import java.io.IOException;
import java.nio.charset.StandardCharsets;
import java.nio.file.Files;
import java.nio.file.Path;
import java.util.Arrays;
import java.util.HashSet;
import java.util.List;
import java.util.Set;
import java.util.regex.Matcher;
import java.util.regex.Pattern;

/** The program's text keeps to those rules of ../shared/LANGUAGE.md that can be seen from its lines. */
public final class LanguageTest {
    private static final Path PROGRAM = Path.of("src/main/java/KeyLetters.java");
    private static final int MOST_LINES_OF_A_METHOD = 60;
    private static final int MOST_PARAMETERS = 7;
    private static final Set<String> LIBRARY = new HashSet<>(Arrays.asList("Math.min", "Math.max", "Integer.bitCount",
            "Long.bitCount", "System.arraycopy"));

    private static final Checks C = new Checks();

    public static void main(String[] args) throws IOException {
        String all = Files.readString(PROGRAM, StandardCharsets.UTF_8);
        String code = all.replaceAll("/\\*(?s:.*?)\\*/", "").replaceAll("//[^\n]*", "");
        bytesAreAscii(all);
        oneImportAndNoPackage(code);
        nothingThatIsRuledOut(code);
        libraryAlone(code);
        staticFieldsAreFinal(code);
        noTextsJoinedByPlus(code);
        exceptionsOfTheDocument(code);
        methodsAreShort(all.split("\n"));
        C.end("LanguageTest");
    }

    private static void bytesAreAscii(String all) {
        for (int i = 0; i < all.length(); i++) {
            if (all.charAt(i) > 126) {
                C.due("the sign at " + i, all.charAt(i), 126);
            }
        }
    }

    private static void oneImportAndNoPackage(String code) {
        C.due("no package", code.contains("\npackage ") || code.startsWith("package "), false);
        Matcher imports = Pattern.compile("import ([^;]+);").matcher(code);
        while (imports.find()) {
            C.due("the import " + imports.group(1), imports.group(1).equals("java.util.NoSuchElementException"), true);
        }
    }

    private static void nothingThatIsRuledOut(String code) {
        List<String> ruledOut = List.of("->", "::", "\\bfinally\\b", "\\bsynchronized\\b", "\\bassert\\b", "\\bcatch\\b",
                "\\bvolatile\\b", "\\bnative\\b", "\\bThread\\b", "\\bRandom\\b", "\\w+Exact\\b", "\\bvar\\b",
                "static \\{", "\\bgetClass\\b", "\\bhashCode\\b", "\\btoString\\b", "\\bvalueOf\\b", "\\bextends\\b",
                "\\bNaN\\b", "\\blong\\[\\]\\[\\]\\[\\]", "\\bprotected\\b");
        for (String pattern : ruledOut) {
            C.due("no " + pattern, Pattern.compile(pattern).matcher(code).find(), false);
        }
    }

    private static void libraryAlone(String code) {
        Matcher calls = Pattern.compile("\\b(Math|Integer|Long|System|Arrays|Character|String|List)\\.\\w+").matcher(code);
        while (calls.find()) {
            C.due("of the library: " + calls.group(), LIBRARY.contains(calls.group()), true);
        }
    }

    private static void staticFieldsAreFinal(String code) {
        Matcher fields = Pattern.compile("\\bstatic (?!final)[\\w\\[\\]<>]+ \\w+( =|;)").matcher(code);
        while (fields.find()) {
            C.due("final: " + fields.group(), 0, 1);
        }
    }

    private static void noTextsJoinedByPlus(String code) {
        C.due("no text ahead of a plus", Pattern.compile("\"\\s*\\+").matcher(code).find(), false);
        C.due("no text behind a plus", Pattern.compile("\\+\\s*\"").matcher(code).find(), false);
    }

    private static void exceptionsOfTheDocument(String code) {
        Matcher thrown = Pattern.compile("throw [^;]*;").matcher(code);
        int throwing = 0;
        while (thrown.find()) {
            throwing++;
            C.due(thrown.group(), thrown.group().equals("throw new NoSuchElementException();"), true);
        }
        C.due("some throw", throwing > 0, true);
    }

    /** A method begins with a line of four or eight blanks that ends with ') {' or with its exceptions. */
    private static void methodsAreShort(String[] lines) {
        Pattern head = Pattern.compile("^( {4}| {8})(?:\\w[\\w\\[\\]<>]* )+?\\w+\\(([^()]*)\\)(?: throws \\w+)? \\{$");
        int methods = 0;
        for (int i = 0; i < lines.length; i++) {
            Matcher m = head.matcher(lines[i]);
            if (!m.find()) {
                continue;
            }
            methods++;
            int end = i;
            while (end < lines.length && !lines[end].equals(m.group(1) + "}")) {
                end++;
            }
            C.due("short: " + lines[i].trim(), end - i + 1 <= MOST_LINES_OF_A_METHOD, true);
            C.due("few parameters: " + lines[i].trim(), m.group(2).split(",").length <= MOST_PARAMETERS, true);
        }
        C.due("methods were seen", methods > 120, true);
    }
}
