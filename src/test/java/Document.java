import java.io.IOException;
import java.io.UncheckedIOException;
import java.nio.file.Files;
import java.nio.file.Path;
import java.util.ArrayList;
import java.util.List;
import java.util.regex.Matcher;
import java.util.regex.Pattern;

/** The document, and which of its sentences a test has quoted as the one it holds the class to. */
final class Document {
    private static final Path PLACE = Path.of("../shared/DOC.md");
    private static final Pattern BODY = Pattern.compile("## Promise (\\d+): [^\n]*\n\n`[^`]*`: ([^\n]*)\n");

    private final String text;
    private final boolean[] quoted;
    private final int termsStart;
    private final int termsEnd;
    private final List<int[]> bodies = new ArrayList<>();

    Document() {
        try {
            text = Files.readString(PLACE);
        } catch (IOException e) {
            throw new UncheckedIOException(e);
        }
        quoted = new boolean[text.length()];
        termsStart = text.indexOf("## Terms") + "## Terms".length();
        termsEnd = text.indexOf("Ahead of the calls");
        Matcher body = BODY.matcher(text);
        while (body.find()) {
            bodies.add(new int[] {body.start(2), body.end(2)});
        }
    }

    int promises() {
        return bodies.size();
    }

    boolean quoteOfTerms(String quote) {
        return quote(quote, termsStart, termsEnd);
    }

    boolean quoteOfPromise(int number, String quote) {
        int[] body = bodies.get(number - 1);
        return quote(quote, body[0], body[1]);
    }

    boolean quoteOfIntroduction(String quote) {
        return quote(quote, 0, termsStart);
    }

    private boolean quote(String quote, int from, int to) {
        int at = text.indexOf(quote, from);
        if (at < 0 || at + quote.length() > to) {
            return false;
        }
        for (int k = at; k < at + quote.length(); k++) {
            quoted[k] = true;
        }
        return true;
    }

    /** What stands in the terms and the promises, and in no test. */
    List<String> unquoted() {
        List<String> all = new ArrayList<>();
        gather(termsStart, termsEnd, all);
        for (int[] body : bodies) {
            gather(body[0], body[1], all);
        }
        return all;
    }

    private void gather(int from, int to, List<String> all) {
        StringBuilder run = new StringBuilder();
        for (int k = from; k < to; k++) {
            if (!quoted[k]) {
                run.append(text.charAt(k));
            }
            if (quoted[k] || k == to - 1) {
                String words = run.toString().replace("```text", "").replace("```", "");
                if (Pattern.compile("[A-Za-z0-9]").matcher(words).find()) {
                    all.add(words.strip());
                }
                run.setLength(0);
            }
        }
    }
}
