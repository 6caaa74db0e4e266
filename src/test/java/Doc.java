import java.io.IOException;
import java.nio.file.Files;
import java.nio.file.Path;
import java.util.ArrayList;
import java.util.List;

/**
 * The document's text. Each boundary test quotes the sentence that it holds the program to, so that
 * no quote goes astray and no sentence is left without a test.
 */
final class Doc {
    private static final int PROMISES = 47;
    private static final String HEADING = "## Promise ";

    /** Parts of 'Terms' that say nothing that a call could break. */
    private static final List<String> NO_CASES = List.of(
            "No learner reads the hidden thing; what is sure is proved by all that is alive.",
            "The class is not thread-safe.",
            "Concepts.", "The teacher.", "Equality.", "Learners.", "Experts.", "Machines.", "Codes.", "Orders.",
            "Exceptions.");

    private static final String TEXT = read();
    private static final List<String> quotes = new ArrayList<>();
    private static final List<Integer> promises = new ArrayList<>();

    private Doc() {
    }

    private static String read() {
        try {
            return Files.readString(Path.of("../shared/DOC.md"));
        } catch (IOException e) {
            System.out.println("../shared/DOC.md is not there: the quotes are not looked up");
            return "";
        }
    }

    private static String between(String begin, String end) {
        int from = TEXT.indexOf(begin) + begin.length();
        return TEXT.substring(from, TEXT.indexOf(end, from));
    }

    private static String terms() {
        return between("## Terms\n", "<p>Examples:");
    }

    private static String use() {
        return between("## What it is\n", "## The public face");
    }

    private static String promise(int number) {
        return between(HEADING + number + ":", number == PROMISES ? "## Not promised" : HEADING + (number + 1) + ":");
    }

    private static String plain(String text) {
        return text.replaceAll("\\s+", " ").trim();
    }

    /** What follows is held to this quote, out of 'What it is', 'Terms' or the promise itself. */
    static void says(int promise, String quote) {
        Check.under("promise " + promise + ", \"" + quote + "\"");
        quotes.add(quote);
        promises.add(promise);
        if (!TEXT.isEmpty()) {
            Check.due("it stands there", true,
                    () -> plain(terms() + use()).contains(quote) || plain(promise(promise)).contains(quote));
        }
    }

    /** Each sentence of 'Terms', and each line of a promise that names a case, was quoted. */
    static void isAllQuoted() {
        Check.under("a sentence without a test");
        if (TEXT.isEmpty()) {
            return;
        }
        for (String sentence : plain(terms()).split("(?<=\\.) ")) {
            boolean isQuoted = NO_CASES.contains(sentence);
            for (String quote : quotes) {
                isQuoted |= sentence.contains(quote) || quote.contains(sentence);
            }
            boolean isSo = isQuoted;
            Check.due(sentence, true, () -> isSo);
        }
        for (int number = 1; number <= PROMISES; number++) {
            Check.due("promise " + number, true, new Has(promises.contains(number)));
            for (String line : promise(number).split("\n\n|\n(?=- )")) {
                if (namesCase(plain(line))) {
                    Check.due("promise " + number + ": " + plain(line), true, new Has(isQuoted(number, plain(line))));
                }
            }
        }
    }

    private static boolean namesCase(String line) {
        return !line.startsWith("`") && line.matches("(Throws|Tells whether the dimension|Creates|Tells points).*"
                + "|.*\\d.*|.*\\b(perhaps|or the same|only|no hints|likewise|'b')\\b.*");
    }

    private static boolean isQuoted(int promise, String line) {
        for (int i = 0; i < quotes.size(); i++) {
            if (promises.get(i) == promise && line.contains(quotes.get(i))) {
                return true;
            }
        }
        return false;
    }

    private static final class Has implements Check.Call {
        private final boolean isSo;

        Has(boolean isSo) {
            this.isSo = isSo;
        }

        @Override
        public Object make() {
            return isSo;
        }
    }
}
