import java.io.IOException;
import java.nio.file.Files;
import java.nio.file.Path;
import java.util.Arrays;
import java.util.Map;
import java.util.TreeMap;
import java.util.function.Supplier;
import java.util.regex.Matcher;
import java.util.regex.Pattern;

/**
 * The sentences of the document, each with the answers that would show it broken. A test quotes its sentence; at the
 * end no words of the document, from its first line to its last, may be left that were not quoted.
 */
final class Sentences {
    /** What a call answers. */
    interface Call {
        long of(PassedPenance x);
    }

    private static final Path DOCUMENT = Path.of("../shared/DOC.md");
    private static final Pattern SEVERAL = Pattern.compile("[^.]\\. [^.]|; -");
    private static final Pattern WORDS = Pattern.compile("[A-Za-z0-9]");
    private static final Pattern TERM = Pattern.compile("(?m)^(I|II|III|IV|V|VI|  TOKENS|  FAULTS|  SLOTS)[., ](.*)$");
    private static final Pattern PROMISE = Pattern.compile("(?m)^## Promise ([0-9]+): .*\\n\\n`[^`]*`: (.*)$");
    private static final Pattern AROUND = Pattern.compile(
            "(?ms)^## (What it is|The public face|Not promised)\\n\\n(?:```java\\n)?(.*?)\\n(?:```\\n)?(?=\\n## |\\z)");
    /** What stands around the sentences: headings, fences, the heads of terms and promises. */
    private static final Pattern HEADS = Pattern.compile("# PassedPenance|## (What it is|The public face|Terms|Not promised)"
            + "|## Promise [0-9]+: [A-Za-z ]+|`[^`]*`: |```(java|text)?|(I|II|III|IV|V|VI)\\.|  (TOKENS|FAULTS|SLOTS)[, ]|");

    private final Check check = new Check();
    private final Map<String, String> texts = new TreeMap<>();
    private final Map<String, boolean[]> quoted = new TreeMap<>();
    private String sentence = "";
    private int answers = 1;
    private int sentences = 0;

    Sentences() throws IOException {
        String document = Files.readString(DOCUMENT);
        StringBuilder rest = new StringBuilder(document);
        for (Pattern pattern : new Pattern[] {TERM, PROMISE, AROUND}) {
            Matcher sections = pattern.matcher(document);
            while (sections.find()) {
                String text = sections.group(2);
                texts.put(sections.group(1).trim(), text);
                quoted.put(sections.group(1).trim(), new boolean[text.length()]);
                rest.replace(sections.start(2), sections.end(2), "\n".repeat(text.length()));
            }
        }
        check.due("sections of the document", texts.size(), 9 + 68 + 3);
        for (String line : rest.toString().split("\n")) {
            check.due("of a section: " + line, HEADS.matcher(line).matches() ? 1 : 0, 1);
        }
    }

    /** The lines of a section. */
    String[] linesOf(String section) {
        return texts.getOrDefault(section, "").split("\n");
    }

    /** The answers from here on are due by a sentence of a section: a term's number, or a promise's. */
    void of(String section, String quote) {
        looksForAnswers();
        sentence = section + ", " + quote + ": ";
        answers = 0;
        sentences++;
        int at = texts.getOrDefault(section, "").indexOf(quote);
        check.due(sentence + "stands in the document", at >= 0 ? 1 : 0, 1);
        check.due(sentence + "is one sentence", SEVERAL.matcher(quote).find() ? 1 : 0, 0);
        if (at >= 0) {
            Arrays.fill(quoted.get(section), at, at + quote.length(), true);
        }
    }

    void of(int promise, String quote) {
        of(Integer.toString(promise), quote);
    }

    void due(String call, long got, long want) {
        answers++;
        check.due(sentence + call, got, want);
    }

    void dueAll(String calls, long[] got, long... want) {
        answers++;
        check.dueAll(sentence + calls, got, want);
    }

    /** Each call, on an object of its own, answers what is due, and all stays as on another one that was not asked. */
    void refused(long want, Supplier<PassedPenance> made, Call... calls) {
        long[] before = Made.state(made.get());
        for (int i = 0; i < calls.length; i++) {
            PassedPenance x = made.get();
            due("refused call " + i, calls[i].of(x), want);
            dueAll("what stays behind refused call " + i, Made.state(x), before);
        }
    }

    /** Each of the calls answers -2 on an object without a church. */
    void noChurch(Call... calls) {
        refused(-2, PassedPenance::new, calls);
        refused(-2, Made::emptied, calls);
    }

    private void looksForAnswers() {
        check.due(sentence + "has answers of its own", answers > 0 ? 1 : 0, 1);
    }

    void end() {
        looksForAnswers();
        for (Map.Entry<String, String> section : texts.entrySet()) {
            StringBuilder rest = new StringBuilder();
            for (int i = 0; i < section.getValue().length(); i++) {
                rest.append(quoted.get(section.getKey())[i] ? '|' : section.getValue().charAt(i));
            }
            boolean isLeft = WORDS.matcher(rest).find();
            check.due("section " + section.getKey() + " has no test for: " + rest, isLeft ? 1 : 0, 0);
        }
        System.out.println(sentences + " sentences");
        check.end();
    }
}
