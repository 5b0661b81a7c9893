import java.io.IOException;
import java.nio.charset.StandardCharsets;
import java.nio.file.Files;
import java.nio.file.Path;
import java.util.LinkedHashMap;
import java.util.Map;
import java.util.regex.Matcher;
import java.util.regex.Pattern;

/** The document, so that each of its sentences is quoted by a test of its own, and none is left over. */
final class Sentences {
    private static final Path DOCUMENT = Path.of("../shared/DOC.md");

    private final Check check = new Check();
    private final Map<String, String> sections = new LinkedHashMap<>();
    private final Map<String, boolean[]> quoted = new LinkedHashMap<>();
    private String sentence = "";
    private int sentences = 0;
    private int answers = 1;

    Sentences() throws IOException {
        String text = Files.readString(DOCUMENT, StandardCharsets.UTF_8);
        String terms = between(text, "## Terms", "The constants:");
        Matcher term = Pattern.compile("(?ms)^(I|II|III|IV)\\. (.*?)(?=^(?:I|II|III|IV)\\. |\\z)").matcher(terms);
        while (term.find()) {
            section(term.group(1), term.group(2));
        }
        Matcher promise = Pattern.compile("(?ms)^## Promise (\\d+): [^\n]*\n\\s*`[^`]*`: (.*?)(?=^## )").matcher(text);
        while (promise.find()) {
            section(promise.group(1), promise.group(2));
        }
        check.due("sections of the document", sections.size(), 54);
    }

    private static String between(String text, String from, String to) {
        int start = text.indexOf(from) + from.length();
        return text.substring(start, text.indexOf(to, start));
    }

    private void section(String name, String words) {
        String plain = words.replace("```text", " ").replace("```", " ").replaceAll("\\s+", " ").trim();
        sections.put(name, plain);
        quoted.put(name, new boolean[plain.length()]);
    }

    /** Begins the test of a sentence: it stands in that part of the document, and no other test has taken it yet. */
    void says(String section, String quote) {
        check.due(sentence + ": has a test", answers > 0, true);
        sentence = "[" + section + ": " + quote + "] ";
        sentences++;
        answers = 0;
        String text = sections.getOrDefault(section, "");
        boolean[] taken = quoted.getOrDefault(section, new boolean[0]);
        int at = text.indexOf(quote);
        while (at >= 0 && taken[at]) {
            at = text.indexOf(quote, at + 1);
        }
        check.due(sentence + "stands in the document", at >= 0, true);
        for (int i = 0; at >= 0 && i < quote.length(); i++) {
            taken[at + i] = true;
        }
    }

    void due(String call, long got, long want) {
        answers++;
        check.due(sentence + call, got, want);
    }

    void due(String call, boolean got, boolean want) {
        due(call, got ? 1 : 0, want ? 1 : 0);
    }

    void refused(String call, ChaletRule x, long got, int trouble) {
        answers++;
        check.refused(sentence + call, x, got, trouble);
    }

    /** A boolean call: what it answers, and its TROUBLE. */
    void is(String call, ChaletRule x, boolean got, int trouble) {
        due(call, got, trouble == 0);
        due(call + ": trouble", x.trouble(), trouble);
    }

    /** A text with one ^, ahead of the place where its FAULT is due. */
    void fault(int number, String marked) {
        ChaletRule x = new ChaletRule();
        refused(marked, x, Check.read(x, marked.replace("^", "")), 4);
        due(marked + " fault()", x.fault(), number);
        due(marked + " where()", x.where(), marked.indexOf('^'));
    }

    /** A text without a FAULT. */
    ChaletRule reads(String text) {
        ChaletRule x = new ChaletRule();
        Check.read(x, text);
        due(text + " trouble()", x.trouble(), 0);
        due(text + " fault()", x.fault(), 0);
        return x;
    }

    void end(String name) {
        check.due(sentence + ": has a test", answers > 0, true);
        for (String section : sections.keySet()) {
            String left = left(section);
            check.due("section " + section + ", without a test: " + left, left.isEmpty(), true);
        }
        System.out.println(name + ": " + sentences + " sentences");
        check.end(name);
    }

    private String left(String section) {
        StringBuilder words = new StringBuilder();
        String text = sections.get(section);
        boolean[] taken = quoted.get(section);
        for (int i = 0; i < text.length(); i++) {
            words.append(taken[i] || !Character.isLetterOrDigit(text.charAt(i)) ? ' ' : text.charAt(i));
        }
        return words.toString().replaceAll(" +", " ").trim();
    }
}
