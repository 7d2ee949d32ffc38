import java.io.IOException;
import java.nio.charset.StandardCharsets;
import java.nio.file.Files;
import java.nio.file.Path;
import java.util.ArrayList;
import java.util.LinkedHashMap;
import java.util.List;
import java.util.Map;

/** The sentences of ../shared/DOC.md by their places: "Nights" and the other paragraphs, "Promise 1" and the others. */
final class Document {
    private final Map<String, List<String>> places = new LinkedHashMap<>();
    private final List<String> face = new ArrayList<>();

    static Document read() throws IOException {
        Document document = new Document();
        String text = Files.readString(Path.of("../shared/DOC.md"), StandardCharsets.UTF_8);
        for (String section : text.split("\n## ")) {
            String title = section.substring(0, section.indexOf('\n'));
            String body = section.substring(title.length()).trim();
            if (title.equals("Description")) {
                document.addParagraphs(body);
            } else if (title.equals("What it is")) {
                document.addBlocks(title, body);
            } else if (title.equals("The public face")) {
                document.addFace(body);
            } else if (title.startsWith("Promise ")) {
                document.addBlocks(title.substring(0, title.indexOf(':')), body);
            }
        }
        return document;
    }

    /** The members of the class, without the names of their parameters. */
    private void addFace(String body) {
        for (String line : body.split("\n")) {
            String member = line.trim();
            if (member.startsWith("public ") && member.endsWith(";")) {
                face.add(member.substring(0, member.length() - 1).replaceAll("\\b(int|char|boolean) \\w+(?=[,)])", "$1"));
            }
        }
    }

    /** A paragraph begins with its name. */
    private void addParagraphs(String body) {
        for (String paragraph : body.split("\n\n")) {
            String line = paragraph.replace('\n', ' ');
            int end = line.indexOf(". ");
            if (end >= 0) {
                addSentences(line.substring(0, end), line.substring(end + 2));
            }
        }
    }

    /** Signatures are left to FaceTest. */
    private void addBlocks(String place, String body) {
        for (String block : body.split("\n\n")) {
            if (block.startsWith("- ")) {
                for (String row : block.substring(2).split("\n- ")) {
                    add(place, row.replace('\n', ' '));
                }
            } else if (!block.startsWith("`")) {
                addSentences(place, block.replace('\n', ' '));
            }
        }
    }

    private void addSentences(String place, String line) {
        for (String sentence : line.split("(?<=\\.) (?=[A-Z])")) {
            add(place, sentence);
        }
    }

    private void add(String place, String sentence) {
        places.computeIfAbsent(place, name -> new ArrayList<>()).add(sentence);
    }

    Map<String, List<String>> places() {
        return places;
    }

    List<String> face() {
        return face;
    }

    List<String> sentences(String place) {
        return places.getOrDefault(place, List.of());
    }
}
