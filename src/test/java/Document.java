import java.io.IOException;
import java.nio.file.Files;
import java.nio.file.Path;
import java.util.ArrayList;
import java.util.BitSet;
import java.util.List;

/** The document's sentences: a test quotes the words that it tests, and in the end no word may be left without a test. */
final class Document {
    private static final Path TEXT = Path.of("../shared/DOC.md");
    private static final String SIGNATURE_END = "`: ";

    private record Line(String section, String text, BitSet quoted) {
    }

    private final List<Line> lines = new ArrayList<>();
    private final Checks c;

    Document(Checks c) throws IOException {
        this.c = c;
        String section = "";
        for (String line : Files.readAllLines(TEXT)) {
            if (line.startsWith("## ")) {
                section = line.substring(3).replaceFirst("^(Promise \\d+):.*", "$1");
            } else {
                lines.add(new Line(section, withoutSignature(line.strip()), new BitSet()));
            }
        }
    }

    private static String withoutSignature(String line) {
        int end = line.indexOf(SIGNATURE_END);
        return line.startsWith("`") && end >= 0 ? line.substring(end + SIGNATURE_END.length()) : line;
    }

    void promise(int number, String words) {
        quote("Promise " + number, words);
    }

    void terms(String words) {
        quote("Terms", words);
    }

    void whatItIs(String words) {
        quote("What it is", words);
    }

    private void quote(String section, String words) {
        boolean found = false;
        for (Line line : lines) {
            int at = line.section.equals(section) ? line.text.indexOf(words) : -1;
            if (at >= 0) {
                found = true;
                line.quoted.set(at, at + words.length());
            }
        }
        c.due("the document says, in '" + section + "': " + words, found, true);
    }

    /** Each word of the terms and of the promises is tested, but for what tells only the interface's layout. */
    void noneIsLeft() {
        for (Line line : lines) {
            if ((line.section.equals("Terms") || line.section.startsWith("Promise ")) && !isLayout(line.text)) {
                c.due("not tested, in '" + line.section + "'", untested(line), "");
            }
        }
    }

    private static boolean isLayout(String text) {
        return text.startsWith("```") || text.startsWith("- `") || text.startsWith("Ahead of the calls")
            || text.startsWith("Rain falls on all;") || text.equals("An hour goes like this:");
    }

    private static String untested(Line line) {
        StringBuilder rest = new StringBuilder();
        for (int i = 0; i < line.text.length(); i++) {
            rest.append(line.quoted.get(i) ? ' ' : line.text.charAt(i));
        }
        // What stands between two quotes may be a sign, but no word.
        return rest.toString().replaceAll("[.,;: ]+", " ").strip();
    }
}
