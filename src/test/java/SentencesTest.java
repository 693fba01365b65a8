import java.io.IOException;
import java.nio.file.DirectoryStream;
import java.nio.file.Files;
import java.nio.file.Path;
import java.util.ArrayList;
import java.util.List;
import java.util.regex.Matcher;
import java.util.regex.Pattern;

/**
 * Whether each sentence of the document is named by a test: what the tests quote by Kit.says is taken out of the
 * document, and nothing but headings and what names no case may be left.
 */
public final class SentencesTest {
    private static final Kit KIT = new Kit("SentencesTest");
    private static final Path DOCUMENT = Path.of("../shared/DOC.md");
    private static final Pattern SAYS = Pattern.compile("\\.says\\((\\d+),\\s*((?:\"(?:\\\\.|[^\"\\\\])*\"[\\s+]*)+)\\)");
    private static final Pattern PIECE = Pattern.compile("\"((?:\\\\.|[^\"\\\\])*)\"");
    /** What is left of the document: it introduces or points elsewhere, and no call could break it. */
    private static final String[] NO_CASE = {
        "CLOUD TEXT.", "INSTANCES.", "SPOT PRICE.", "HOURS.", "BILLS.", "CHANGES.",
        "All items without quotes, except those that are explained by the grammar, are numbers.",
        "An hour passes in these steps:",
        // FaceTest and ParseTest look at the constant.
        "The constants:", "- `NONE = -1`: Returned if there is no result.",
        "The constructor and the methods follow, a promise each: the signature, then what it does.",
        "---- cloud", "---- hosts and prices", "---- instances and requests", "---- bills", "---- packing",
        "---- changes", "---- undo and snapshots", "----"};

    public static void main(String[] args) throws IOException {
        if (!Files.exists(DOCUMENT)) {
            System.out.println("SentencesTest: no document at " + DOCUMENT + ", nothing is compared");
            return;
        }
        String[] sections = sections(Files.readString(DOCUMENT));
        for (String[] quote : quotes()) {
            int promise = Integer.parseInt(quote[0]);
            boolean found = promise < sections.length && sections[promise].contains(quote[1]);
            KIT.due("promise " + promise + " has [" + quote[1] + "]", found, true);
        }
        List<String[]> quotes = quotes();
        // Longer ones first, since a short one may be a part of a longer one.
        quotes.sort((a, b) -> b[1].length() - a[1].length());
        for (int promise = 0; promise < sections.length; promise++) {
            String left = sections[promise];
            for (String[] quote : quotes) {
                if (Integer.parseInt(quote[0]) == promise) {
                    left = left.replace(quote[1], " | ");
                }
            }
            for (String plain : NO_CASE) {
                left = left.replace(plain, " | ");
            }
            left = left.replaceAll("[|\\s]+", " ").trim();
            KIT.due("what no test names of promise " + promise + " [" + left + "] is nothing", left.isEmpty(), true);
        }
        KIT.end();
    }

    /** The description, then the promises; blanks are single, and the signatures are left out. */
    private static String[] sections(String text) {
        String[] parts = text.split("\n## ");
        List<String> found = new ArrayList<>();
        for (String part : parts) {
            if (part.startsWith("Description\n") || part.startsWith("Promise ")) {
                String body = part.substring(part.indexOf('\n'));
                if (part.startsWith("Promise ")) {
                    body = body.replaceFirst("`[^`]*`", "");
                }
                found.add(body.replaceAll("\\s+", " "));
            }
        }
        return found.toArray(new String[0]);
    }

    private static List<String[]> quotes() throws IOException {
        List<String[]> found = new ArrayList<>();
        try (DirectoryStream<Path> files = Files.newDirectoryStream(Path.of("src/test/java"), "*Test.java")) {
            for (Path file : files) {
                Matcher says = SAYS.matcher(Files.readString(file));
                while (says.find()) {
                    StringBuilder words = new StringBuilder();
                    Matcher piece = PIECE.matcher(says.group(2));
                    while (piece.find()) {
                        words.append(piece.group(1).replaceAll("\\\\(.)", "$1"));
                    }
                    found.add(new String[] {says.group(1), words.toString()});
                }
            }
        }
        return found;
    }
}
