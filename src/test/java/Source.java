import java.io.IOException;
import java.nio.file.Files;
import java.nio.file.Path;
import java.util.ArrayList;
import java.util.List;

/** The text of the program, and of its methods and constructors. */
final class Source {
    /** A head is one line, however it is broken; a body has the lines behind it, the closing brace among them. */
    record Part(String head, List<String> body) {
        boolean isConstructor() {
            return head.matches("(public )?[A-Z]\\w*\\(.*");
        }
    }

    private final List<String> lines;

    private Source(List<String> lines) {
        this.lines = lines;
    }

    static Source ofProgram() throws IOException {
        return new Source(Files.readAllLines(Path.of("src/main/java/LabelledVolume.java")));
    }

    List<String> lines() {
        return lines;
    }

    boolean has(String word) {
        return lines.stream().anyMatch(line -> line.contains(word));
    }

    /** Members are one step in, those of the classes inside the program two. */
    List<Part> methods() {
        List<Part> found = new ArrayList<>();
        for (int k = 0; k < lines.size(); k++) {
            if (!lines.get(k).matches(" {4}( {4})?[\\w<].*")) {
                continue;
            }
            String indent = lines.get(k).substring(0, lines.get(k).length() - lines.get(k).stripLeading().length());
            StringBuilder head = new StringBuilder(lines.get(k).trim());
            while (!lines.get(k).endsWith("{") && !lines.get(k).endsWith(";")) {
                k++;
                head.append(' ').append(lines.get(k).trim());
            }
            if (head.indexOf("(") < 0 || lines.get(k).endsWith(";")) {
                continue;
            }
            int end = k + lines.subList(k, lines.size()).indexOf(indent + "}");
            found.add(new Part(head.toString(), lines.subList(k + 1, end + 1)));
            k = end;
        }
        return found;
    }
}
