import java.io.IOException;
import java.nio.file.DirectoryStream;
import java.nio.file.Files;
import java.nio.file.Path;
import java.util.ArrayList;
import java.util.Comparator;
import java.util.List;
import java.util.regex.Matcher;
import java.util.regex.Pattern;

/**
 * Each sentence of the document's Terms and promises has a test: what the tests
 * quote by of("..") stands in ../shared/DOC.md, and all that stands there is quoted.
 */
public final class DocumentTest {
    private static final Path DOCUMENT = Path.of("../shared/DOC.md");
    private static final Path TESTS = Path.of("src/test/java");
    private static final Pattern QUOTE = Pattern.compile("\\bof\\(\"((?:[^\"\\\\]|\\\\.)+)\"\\);");

    private static int wrong;

    private static void report(String what) {
        wrong++;
        System.out.println(what);
    }

    private static List<String> quotes() throws IOException {
        List<String> all = new ArrayList<>();
        try (DirectoryStream<Path> files = Files.newDirectoryStream(TESTS, "*Edges.java")) {
            for (Path file : files) {
                Matcher m = QUOTE.matcher(Files.readString(file));
                while (m.find()) all.add(m.group(1));
            }
        }
        // A long one is looked for first, so that a short one that stands in it too takes nothing of it.
        all.sort(Comparator.comparingInt(String::length).reversed());
        return all;
    }

    /** Without headings, the marks of its parts and the lists of what is told ahead of calls. */
    private static String terms() throws IOException {
        String all = Files.readString(DOCUMENT);
        int from = all.indexOf("## Terms");
        int to = all.indexOf("## Not promised");
        if (from < 0 || to < from) {
            report("the document has no Terms");
            return "";
        }
        return all.substring(from, to).replaceAll("(?m)^(#|```|Ahead of the calls ).*$", " ")
            .replaceAll("======== [0-9]", " ").replaceAll("\\s+", " ");
    }

    public static void main(String[] args) throws IOException {
        if (!Files.exists(DOCUMENT)) {
            System.out.println("there is no " + DOCUMENT + " to compare with");
            return;
        }
        String document = Files.readString(DOCUMENT).replaceAll("\\s+", " ");
        String left = terms();
        List<String> quotes = quotes();
        for (String quote : quotes) {
            if (!document.contains(quote)) report("quoted, but not in the document: " + quote);
            int at = left.indexOf(quote);
            if (at >= 0) left = left.substring(0, at) + "\n" + left.substring(at + quote.length());
        }
        for (String piece : left.split("\n")) {
            if (piece.matches(".*[A-Za-z0-9].*")) report("in the document without a test: " + piece.strip());
        }
        System.out.println(wrong == 0 ? "each of " + quotes.size() + " sentences has a test" : wrong + " differences");
        if (wrong != 0) System.exit(1);
    }
}
