import java.io.IOException;
import java.nio.file.Files;
import java.nio.file.Path;
import java.util.ArrayList;
import java.util.Arrays;
import java.util.LinkedHashMap;
import java.util.List;
import java.util.Map;
import java.util.regex.Matcher;
import java.util.regex.Pattern;

/**
 * The document by its sections, and which of its words tests have taken up: each refusal of a promise
 * and each word that tells of a bound must be taken up by a test of its own.
 */
final class Doc {
    private static final Pattern REFUSALS =
        Pattern.compile("(?:NONE|HIDDEN|False|NoSuchElementException|-2): ((?:\\([^)]*\\)|[^.()])*)");
    private static final Pattern BOUNDS = Pattern.compile(
        "[\\w,-]+ \\.\\. [\\w,-]+|at most|of several|\\bcut\\b|or more|more than|without|beyond|none to|1 to 4");

    /** One part of the document, and which of its characters a test has quoted. */
    private static final class Section {
        private final String text;
        private final boolean[] quoted;

        Section(String text) {
            this.text = text.replace("```text", " ").replace("```", " ").replaceAll("\\s+", " ");
            this.quoted = new boolean[this.text.length()];
        }

        boolean isAll(int from, int until) {
            for (int i = from; i < until; i++) {
                if (!quoted[i]) {
                    return false;
                }
            }
            return true;
        }
    }

    private final Check check;
    private final boolean isThere;
    private final Map<String, Section> sections = new LinkedHashMap<>();
    private String name = "";
    private Section section;
    private String quote = "";
    private int askedOfIt = 1;

    /** Without a document at the path only the answers are looked at. */
    Doc(Check check, Path path) throws IOException {
        this.check = check;
        this.isThere = Files.exists(path);
        if (isThere) {
            cutAll(Files.readString(path));
        } else {
            System.out.println("no document at " + path);
        }
    }

    private void cutAll(String text) {
        cut(text, "What it is", "## What it is", "## The public face");
        cut(text, "Terms 1", "## Terms", "==== 2.");
        cut(text, "Terms 2", "==== 2.", "==== 3.");
        cut(text, "Terms 3", "==== 3.", "==== 4.");
        cut(text, "Terms 4", "==== 4. WINTERS", "The constants:");
        for (int i = 1; i <= 49; i++) {
            cut(text, "Promise " + i, "## Promise " + i + ":", i < 49 ? "## Promise " + (i + 1) + ":" : "## Not promised");
        }
    }

    private void cut(String text, String name, String from, String until) {
        int start = text.indexOf(from);
        int end = text.indexOf(until, start);
        check.due("the document has " + name, start >= 0 && end > start, true);
        sections.put(name, new Section(start >= 0 && end > start ? text.substring(start, end) : ""));
    }

    /** What follows quotes this section. */
    void in(String part) {
        name = part;
        section = sections.get(part);
    }

    /** A sentence of the section, once in it; the answers that follow are due by it. */
    void says(String words) {
        endOfQuote();
        quote = name + " «" + words + "»";
        if (isThere) {
            mark(words);
        }
    }

    private void mark(String words) {
        int at = section.text.indexOf(words);
        check.due(quote + " stands once in the document", at >= 0 && section.text.lastIndexOf(words) == at, true);
        if (at >= 0) {
            Arrays.fill(section.quoted, at, at + words.length(), true);
        }
    }

    private void endOfQuote() {
        check.due(quote + " has answers that are due", askedOfIt > 0, true);
        askedOfIt = 0;
    }

    void due(String what, long got, long want) {
        askedOfIt++;
        check.due(quote + ": " + what, got, want);
    }

    /** Tells what of the document no test has taken up. */
    void end() {
        endOfQuote();
        for (Map.Entry<String, Section> one : sections.entrySet()) {
            boolean any = false;
            for (boolean quoted : one.getValue().quoted) {
                any |= quoted;
            }
            check.due(one.getKey() + " is quoted", any, true);
            for (String missing : missing(one.getValue())) {
                check.due(one.getKey() + ", no test of «" + missing + "»", 0, 1);
            }
        }
    }

    private static List<String> missing(Section section) {
        List<String> missing = new ArrayList<>();
        Matcher bounds = BOUNDS.matcher(section.text);
        while (bounds.find()) {
            if (!section.isAll(bounds.start(), bounds.end())) {
                missing.add(section.text.substring(bounds.start(), Math.min(section.text.length(), bounds.end() + 30)));
            }
        }
        Matcher refusals = REFUSALS.matcher(section.text);
        while (refusals.find()) {
            int from = refusals.start(1);
            for (String refusal : refusals.group(1).split(", ")) {
                if (!section.isAll(from, from + refusal.length())) {
                    missing.add(refusal);
                }
                from += refusal.length() + 2;
            }
        }
        return missing;
    }
}
