import java.io.IOException;
import java.nio.charset.StandardCharsets;
import java.nio.file.Files;
import java.nio.file.Path;
import java.util.ArrayList;
import java.util.List;

/** The example of README.md, with the answers that it tells; run from the project's directory. */
public final class ReadmeTest {
    private static final Path README = Path.of("README.md");
    private static final Path TEST = Path.of("src/test/java/ReadmeTest.java");

    private final Check check = new Check();

    public static void main(String[] args) throws IOException {
        ReadmeTest test = new ReadmeTest();
        test.check.each(test::example);
        test.linesAreTheSame();
        test.check.end();
    }

    private void example() {
        check.part("the example");
        // README.md begins
        CreaturePond pond = new CreaturePond(5, 4);
        pond.set(10, 4711);
        pond.store(500);
        pond.grain(1, 1, 60);
        int a = pond.animal(1, 1, 0, 100);
        pond.code(a, 4, 0x12111001);
        pond.keep();
        int living = pond.tick(10);
        int energy = pond.field(a, 11);
        int grain = pond.cell(1, 1, 0);
        int all = pond.total(3);
        int first = pond.differ();
        boolean taken = pond.back();
        // README.md ends
        check.due("a", a, 0);
        check.due("living", living, 1);
        check.due("energy", energy, 125);
        check.due("grain", grain, 35);
        check.due("all", all, 660);
        check.due("first", first, 0);
        check.due("taken", taken, true);
        check.due("all as before the ticks", pond.total(3), 660);
        check.due("nothing differs then", pond.differ(), CreaturePond.NONE);
        check.due("energy as kept", pond.field(a, 11), 100);
    }

    /** What is tried above is what a reader sees. */
    private void linesAreTheSame() throws IOException {
        check.part("the example's lines");
        check.due("in README.md", between(README, "```java", "```"),
                between(TEST, "// README.md begins", "// README.md ends"));
    }

    private static List<String> between(Path file, String begin, String end) throws IOException {
        List<String> lines = new ArrayList<>();
        boolean within = false;
        for (String line : Files.readAllLines(file, StandardCharsets.UTF_8)) {
            if (within && line.trim().equals(end)) {
                return lines;
            }
            if (within) {
                lines.add(line.replaceFirst("//.*", "").trim());
            }
            within |= line.trim().equals(begin);
        }
        return lines;
    }
}
