import java.io.IOException;
import java.nio.file.Files;
import java.nio.file.Path;
import java.util.BitSet;
import java.util.LinkedHashMap;
import java.util.Map;
import java.util.regex.Matcher;
import java.util.regex.Pattern;

/**
 * The words of ../shared/DOC.md, so that a test can say which of them it holds. What a test quotes must stand in the
 * document, must be followed by at least one check, and in the end no words may be left of which no test speaks.
 */
final class Doc {
    private static final Path FILE = Path.of("../shared/DOC.md");
    private static final Pattern PROMISE = Pattern.compile("## (Promise \\d+): [^\n]*\n+`[^`]*`: ([^#]*)");
    private static final Pattern PART = Pattern.compile("==== (I|II|III|IV|V)\\. ([^=]*(?:=(?!===)[^=]*)*)");

    private static final Map<String, String> WORDS = new LinkedHashMap<>();
    private static final Map<String, BitSet> SPOKEN_OF = new LinkedHashMap<>();
    private static String section = "";
    private static String sentence = "";
    private static int checksBefore = 0;

    private Doc() {
    }

    static void read() throws IOException {
        String text = Files.readString(FILE);
        String terms = between(text, "## Terms", "The constants:");
        keep("What it is", between(text, "## What it is", "## The public face"));
        keep("The constants", between(text, "The constants:", "## Promise 1:"));
        for (Matcher part = PART.matcher(terms); part.find();) {
            keep(part.group(1), part.group(2));
        }
        for (Matcher promise = PROMISE.matcher(text); promise.find();) {
            keep(promise.group(1), promise.group(2));
        }
        Due.same("the document's sections", WORDS.size(), 2 + 5 + 33);
    }

    private static String between(String text, String first, String last) {
        int from = text.indexOf(first);
        int to = text.indexOf(last);
        if (from < 0 || to < from) {
            Due.fail("the document has no '" + first + "' ahead of '" + last + "'");
            return "";
        }
        return text.substring(from + first.length(), to);
    }

    private static void keep(String name, String text) {
        WORDS.put(name, plain(text.replace("```text", "").replace("`", "")));
        SPOKEN_OF.put(name, new BitSet());
    }

    private static String plain(String text) {
        return text.replaceAll("\\s+", " ").trim();
    }

    /** From here on is spoken of this part of the Terms (I to V), of this Promise. */
    static void section(String name) {
        close();
        section = name;
        if (!WORDS.containsKey(name)) {
            Due.fail("the document has no section " + name);
        }
    }

    /** The checks that follow hold these words of the section. */
    static void says(String words) {
        close();
        sentence = words;
        checksBefore = Due.checks();
        speakOf(words);
        Due.under(section + ", \"" + words + "\": ");
    }

    /** These words of the section name no boundary case. */
    static void namesNoEdge(String words) {
        close();
        speakOf(words);
    }

    private static void close() {
        if (!sentence.isEmpty() && Due.checks() == checksBefore) {
            Due.fail(section + ", \"" + sentence + "\": quoted, but not tested");
        }
        sentence = "";
        Due.under("");
    }

    private static void speakOf(String words) {
        String all = WORDS.getOrDefault(section, "");
        int at = all.indexOf(words);
        if (at < 0) {
            Due.fail(section + " does not say \"" + words + "\"");
        }
        for (; at >= 0; at = all.indexOf(words, at + 1)) {
            SPOKEN_OF.get(section).set(at, at + words.length());
        }
    }

    /** No words of the document may be left of which nothing was said. */
    static void checkAllSpokenOf() {
        close();
        for (Map.Entry<String, String> each : WORDS.entrySet()) {
            StringBuilder left = new StringBuilder();
            for (int i = 0; i < each.getValue().length(); i++) {
                boolean spokenOf = SPOKEN_OF.get(each.getKey()).get(i);
                left.append(spokenOf ? ' ' : each.getValue().charAt(i));
            }
            String rest = plain(left.toString().replaceAll("[^A-Za-z0-9]+", " "));
            if (rest.isEmpty()) {
                Due.pass();
            } else {
                Due.fail(each.getKey() + ": no test speaks of \"" + rest + "\"");
            }
        }
    }
}
