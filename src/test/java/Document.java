import java.io.IOException;
import java.nio.file.Files;
import java.nio.file.Path;
import java.util.ArrayList;
import java.util.List;
import java.util.regex.Matcher;
import java.util.regex.Pattern;

/** The document, read for what it says of the face: which calls, by which words, in which order. */
final class Document {
    private static final Path PLACE = Path.of("../shared/DOC.md");

    final String text;

    private Document(String text) {
        this.text = text;
    }

    /** The document; null, if it is not beside the checkout. */
    static Document read() throws IOException {
        if (!Files.isReadable(PLACE)) {
            System.out.println("nothing is compared with the document: there is no " + PLACE);
            return null;
        }
        return new Document(Files.readString(PLACE));
    }

    static String oneLine(String text) {
        return text.replaceAll("\\s+", " ").trim();
    }

    /** What stands under a heading, up to the next one. */
    String under(String heading) {
        int from = text.indexOf("\n## " + heading + "\n");
        int to = text.indexOf("\n## ", from + 1);
        return from < 0 ? "" : text.substring(from, to < 0 ? text.length() : to);
    }

    /** The lines of the face, each without its public and its semicolon. */
    List<String> face() {
        List<String> lines = new ArrayList<>();
        Matcher line = Pattern.compile("(?m)^ {4}public (.*);$").matcher(under("The public face"));
        while (line.find()) {
            lines.add(line.group(1));
        }
        return lines;
    }

    /** The methods of the face, as "int part(int part, int firm, int tone)". */
    List<String> methods() {
        List<String> methods = new ArrayList<>();
        for (String line : face()) {
            if (line.matches("(int|long) \\w+\\(.*\\)")) {
                methods.add(line);
            }
        }
        return methods;
    }

    /** The constants of the face, as "int NONE = -6". */
    List<String> constants() {
        List<String> constants = new ArrayList<>();
        for (String line : face()) {
            Matcher row = Pattern.compile("static final (int|long) (.*)").matcher(line);
            if (row.matches()) {
                for (String one : row.group(2).split(", ")) {
                    constants.add(row.group(1) + " " + one);
                }
            }
        }
        return constants;
    }

    /** How a promise is headed. */
    String heading(int promise) {
        Matcher head = Pattern.compile("(?m)^## (Promise " + promise + ": .*)$").matcher(text);
        return head.find() ? head.group(1) : "";
    }

    /** What a promise says: the head of its call, and its words. */
    String[] promise(int number) {
        Matcher said = Pattern.compile("`([^`]*)`: (.*)").matcher(oneLine(body(under(heading(number)))));
        return said.matches() ? new String[] {said.group(1), said.group(2)} : new String[] {"", ""};
    }

    private static String body(String section) {
        int end = section.indexOf('\n', 1);
        return end < 0 ? "" : section.substring(end);
    }
}
