import java.io.IOException;
import java.nio.file.Files;
import java.nio.file.Path;
import java.util.ArrayList;
import java.util.Arrays;
import java.util.List;
import java.util.regex.Matcher;
import java.util.regex.Pattern;
import java.util.stream.Stream;

/**
 * Looks whether the tests leave a sentence of the document out: all words of its terms and promises have to be quoted
 * by a test that checks them (see Boundary), and its public face has to stand in the class as it stands there.
 */
public final class DocumentTest {
    private static final String TEXT = "\"[^\"\\\\]*+(?:\\\\.[^\"\\\\]*+)*+\"";
    private static final Pattern QUOTE = Pattern.compile("\\b(part|sentence)\\(\\s*(" + TEXT
        + "(?:\\s*\\+\\s*" + TEXT + ")*+)\\s*\\)");

    private static String document;
    private static String source;
    private static int wrong;

    public static void main(String[] args) throws IOException {
        document = Files.readString(Path.of("../shared/DOC.md"));
        source = Files.readString(Path.of("src/main/java/SiteCuts.java"));
        faceIsThere();
        groupsAreThere();
        int quotes = allIsQuoted();
        System.out.println(quotes + " quotes, " + wrong + " wrong");
        if (wrong != 0) {
            System.exit(1);
        }
    }

    private static void fault(String what) {
        wrong++;
        System.out.println(what);
    }

    private static String between(String start, String end) {
        int from = document.indexOf(start);
        int to = from < 0 ? -1 : document.indexOf(end, from + start.length());
        if (to < 0) {
            fault("the document has no part from " + start + " to " + end);
            return "";
        }
        return document.substring(from, to);
    }

    // ---- the public face

    /** Each line of the face, in its order, is a line of the class, or the head of a method of it. */
    private static void faceIsThere() {
        int from = 0;
        int lines = 0;
        for (String line : between("```java\n", "\n```").split("\n")) {
            if (!line.startsWith("    public ") && !line.startsWith("public ")) {
                continue;
            }
            boolean isCall = line.endsWith(");");
            String head = isCall ? line.substring(0, line.length() - 1) + " {" : line;
            int at = source.indexOf("\n" + head + "\n", from);
            if (at < 0) {
                fault("the class does not have, in its place: " + line);
            } else {
                from = at + 1;
            }
            lines++;
        }
        if (lines != 33) {
            fault("the face has " + lines + " lines");
        }
    }

    /** "Ahead of the calls `a`, `b` the interface says: ---- x.": the class says so too. */
    private static void groupsAreThere() {
        Matcher groups = Pattern.compile("\nAhead of the calls (.*) the interface says: (---- .*)\\.\n").matcher(document);
        int found = 0;
        while (groups.find()) {
            found++;
            int from = source.indexOf("// " + groups.group(2) + "\n");
            int to = from < 0 ? -1 : source.indexOf("// ----", from + 1);
            String group = from < 0 ? "" : to < 0 ? source.substring(from) : source.substring(from, to);
            List<String> calls = new ArrayList<>();
            Matcher heads = Pattern.compile("\n    public \\w+ (\\w+)\\(").matcher(group);
            while (heads.find()) {
                calls.add("`" + heads.group(1) + "`");
            }
            if (!String.join(", ", calls).equals(groups.group(1))) {
                fault("behind " + groups.group(2) + " stand " + calls + ", due are " + groups.group(1));
            }
        }
        if (found != 5) {
            fault("the document has " + found + " groups of calls");
        }
    }

    // ---- the sentences

    private static int allIsQuoted() throws IOException {
        boolean[] quoted = new boolean[document.length()];
        int quotes = 0;
        List<Path> tests;
        try (Stream<Path> files = Files.list(Path.of("src/test/java"))) {
            tests = files.filter(file -> file.toString().endsWith("Test.java")).sorted().toList();
        }
        for (Path test : tests) {
            String text = Files.readString(test);
            if (text.contains("Test extends Boundary {")) {
                quotes += markQuotes(text, quoted);
            }
        }
        String terms = unquoted("## Terms", "## Promise 1:", quoted);
        String promises = unquoted("## Promise 1:", "## Not promised", quoted);
        wordsAreLeft(terms);
        wordsAreLeft(promises);
        return quotes;
    }

    private static int markQuotes(String test, boolean[] quoted) {
        int quotes = 0;
        int from = 0;
        Matcher matcher = QUOTE.matcher(test);
        while (matcher.find()) {
            StringBuilder words = new StringBuilder();
            Matcher texts = Pattern.compile(TEXT).matcher(matcher.group(2));
            while (texts.find()) {
                words.append(texts.group(), 1, texts.group().length() - 1);
            }
            String said = words.toString().replace("\\\"", "\"");
            if (matcher.group(1).equals("part")) {
                from = document.indexOf("## " + said);
                continue;
            }
            int at = from < 0 ? -1 : document.indexOf(said, from);
            if (at < 0) {
                fault("the document does not say \"" + said + "\"");
                continue;
            }
            Arrays.fill(quoted, at, at + said.length(), true);
            quotes++;
        }
        return quotes;
    }

    /** What no test quotes, without headings, heads of calls and what groupsAreThere() looks at. */
    private static String unquoted(String start, String end, boolean[] quoted) {
        int from = document.indexOf(start);
        int to = document.indexOf(end);
        StringBuilder left = new StringBuilder();
        for (int i = from; i < to; i++) {
            left.append(quoted[i] && document.charAt(i) != '\n' ? ' ' : document.charAt(i));
        }
        return left.toString()
            .replaceAll("(?m)^(## .*|[A-Z ]+|Ahead of the calls .*|The constants: *)$", "")
            .replaceAll("(?m)^(`[^`\n]*\\)`:)? *(- `what`:)?", "");
    }

    private static void wordsAreLeft(String left) {
        for (String line : left.split("\n")) {
            if (Pattern.compile("\\b(?!and\\b)\\w").matcher(line).find()) {
                fault("no test quotes: " + line.trim().replaceAll(" +", " "));
            }
        }
    }
}
