import java.io.IOException;
import java.nio.file.Files;
import java.nio.file.Path;
import java.util.ArrayList;
import java.util.List;
import java.util.regex.Matcher;
import java.util.regex.Pattern;

/** What of LANGUAGE.md can be seen in the program's text; its path is the only argument. */
public final class LanguageTest {
    private static final int LONGEST_METHOD = 60;
    private static final String[] FORBIDDEN = {
        "->", "::", "\\bsynchronized\\b", "\\bassert\\b", "\\bfinally\\b", "\\bcatch\\b", "Exact\\(", "\\binstanceof\\b",
        "System\\.(?!arraycopy)", "\\bpackage\\b", "\\bThread\\b", "\\bRandom\\b", "static \\{", "hashCode", "toString",
        "\\bprotected\\b", "\"[^\"]*\" \\+", "\\+ \"", "\\bString\\.", "\\bwhile \\(true\\)", "for \\(;;\\)",
        "[^\\x00-\\x7f]", "static (?!final)[a-z]+(\\[\\])? [a-zA-Z]+( =|;)"};

    public static void main(String[] args) throws IOException {
        Check check = new Check("LanguageTest");
        String path = args.length > 0 ? args[0] : "src/main/java/BlackMill.java";
        List<String> code = new ArrayList<>();
        for (String line : Files.readAllLines(Path.of(path))) {
            code.add(line.replaceAll("//.*", "").replaceAll("^\\s*(/\\*\\*|\\*).*", ""));
        }
        for (String forbidden : FORBIDDEN) {
            check.due(forbidden, lineWith(code, forbidden), -1);
        }
        imports(check, code);
        check.due("throws", many(code, "\\bthrow new "), 1);
        check.due("methods", methods(check, code) > 100, true);
        check.end();
    }

    private static int lineWith(List<String> code, String forbidden) {
        Pattern pattern = Pattern.compile(forbidden);
        for (int i = 0; i < code.size(); i++) {
            if (pattern.matcher(code.get(i)).find()) {
                return i + 1;
            }
        }
        return -1;
    }

    private static int many(List<String> code, String pattern) {
        int many = 0;
        for (String line : code) {
            Matcher matcher = Pattern.compile(pattern).matcher(line);
            while (matcher.find()) {
                many++;
            }
        }
        return many;
    }

    private static void imports(Check check, List<String> code) {
        for (String line : code) {
            boolean known = line.matches("import java\\.util\\.(Arrays|ArrayList|List|Iterator|NoSuchElementException);");
            check.due(line, line.startsWith("import") && !known, false);
        }
    }

    private static int methods(Check check, List<String> code) {
        int methods = 0;
        Pattern head = Pattern.compile("^( {4}| {8})(?! )[a-zA-Z].*\\(([^()]*)\\)( throws \\w+)? \\{$");
        for (int i = 0; i < code.size(); i++) {
            Matcher matcher = head.matcher(code.get(i));
            if (matcher.matches() && !code.get(i).trim().matches("(if|for|while|switch|\\} else).*")) {
                int end = i;
                while (!code.get(end).equals(matcher.group(1) + "}")) {
                    end++;
                }
                methods++;
                check.due("too long: " + code.get(i).trim(), end - i + 1 > LONGEST_METHOD, false);
                check.due("too many parameters: " + code.get(i).trim(), matcher.group(2).split(",").length > 7, false);
            }
        }
        return methods;
    }
}
