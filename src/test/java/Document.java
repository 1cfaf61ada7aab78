import java.io.IOException;
import java.io.UncheckedIOException;
import java.nio.file.Files;
import java.nio.file.Path;

/** The words of ../shared/DOC.md, by which answers are due. */
final class Document {
    static final int PROMISES = 28;
    private static final String[] HEADINGS = {
        "Communities, laws, rules ", "Persons, faiths ", "### Marriages ", "### Estates ", "### Suits ",
        "Communities, decrees, rules, persons, faiths, marriages, deaths, suits and days come by calls; laws, courts, "
                + "faiths, status and goods are asked. ",
    };
    private static final String ALL = read();

    private Document() {
    }

    private static String read() {
        try {
            return plain(Files.readString(Path.of("../shared/DOC.md")));
        } catch (IOException e) {
            throw new UncheckedIOException(e);
        }
    }

    /** Where a line ends in the document says nothing, so a quotation may leave line ends and spaces aside. */
    static String plain(String words) {
        return words.replaceAll("\\s+", " ");
    }

    /** All that the terms say, without their headings and the sentence that only lists them. */
    static String terms() {
        String terms = between("## Terms ", "The constants: ");
        for (String heading : HEADINGS) {
            terms = terms.replace(heading, "");
        }
        return terms;
    }

    /** All that a promise says behind its face. */
    static String promise(int number) {
        String end = number == PROMISES ? "## Not promised " : "## Promise " + (number + 1) + ": ";
        String promise = between("## Promise " + number + ": ", end);
        return promise.substring(promise.indexOf("`: ") + "`: ".length());
    }

    private static String between(String begin, String end) {
        int from = ALL.indexOf(begin);
        int to = ALL.indexOf(end, Math.max(from, 0));
        return from < 0 || to < 0 ? "" : ALL.substring(from + begin.length(), to);
    }
}
