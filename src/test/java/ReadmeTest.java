import java.io.IOException;
import java.nio.file.Files;
import java.nio.file.Path;
import java.util.List;

/** The example of README.md, word by word, and what it says of the answers. */
public final class ReadmeTest {
    private static final Check c = new Check();

    public static void main(String[] args) throws IOException {
        example();
        textIsTheSame();
        c.end();
    }

    private static void example() {
        LabelledVolume v = new LabelledVolume();
        int file = v.create(1, 42, false);
        v.write(file, 0, 65);
        v.write(file, 1, 66);
        int first = v.read(v.open(1, 42), 0);
        c.is(65, first, "first byte");
        v.shorten(file, 1);
        c.is(1, v.length(file), "length");

        int dir = v.create(1, 43, true);
        int inner = v.create(dir, 42, false);
        c.is(5, inner, "serial of the file in the directory");
        int freed = v.remove(dir, 42);
        c.is(1, freed, "sectors that became free");

        v.scratch(3);
        int files = v.scavenge();
        c.is(4, files, "files");
        int found = v.open(1, 10003);
        c.is(file, found, "serial of the file with a new leader");
        int made = v.report(2);
        c.is(1, made, "leaders made");
        c.is(65, v.read(found, 0), "first byte, still");
    }

    private static void textIsTheSame() throws IOException {
        List<String> readme = Files.readAllLines(Path.of("README.md"));
        String here = Files.readString(Path.of("src/test/java/ReadmeTest.java"));
        List<String> behind = readme.subList(readme.indexOf("```java") + 1, readme.size());
        List<String> example = behind.subList(0, behind.indexOf("```"));
        c.is(true, example.size() > 10, "README.md has an example");
        for (String line : example) {
            String code = line.replaceAll(" *//.*", "");
            c.is(true, here.contains("        " + code + "\n") || code.isEmpty(), "the example's " + code);
        }
    }
}
