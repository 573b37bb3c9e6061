import java.io.IOException;
import java.nio.file.Files;
import java.nio.file.Path;
import java.util.List;

/** The example in README.md: it answers as its comments say, and it stands here word for word. */
public final class ReadmeTest {
    public static void main(String[] args) throws IOException {
        example();
        standsHereWordForWord();
        Check.end();
    }

    private static void example() {
        IsleBoats line = new IsleBoats();
        int harbour = line.pier(50, 20, 0, true);
        int isle = line.pier(40, 20, 360, false);
        int boat = line.boat(35, 20, 100, 30, 4, 3, harbour);
        int out = line.sailing(boat, harbour, isle, 400, 60, true);
        int later = line.sailing(boat, harbour, isle, 2000, 60, true);
        int visitor = line.book(out, 2, 10, 25, 0, false, false);
        int lorry = line.book(out, 1, 12, 30, 0, false, true);
        int house = line.book(out, 2, 21, 5, 0, false, false);
        line.pass(400);
        Check.due(IsleBoats.SAILS, () -> line.sailingOf(out, 0));
        Check.due(lorry, () -> line.plan(out, 0, false));
        Check.due(1, () -> line.bookingOf(visitor, 4));
        Check.due(1000, () -> line.bookingOf(visitor, 5));
        Check.due(3, () -> line.bookingOf(house, 2));
        Check.due(later, () -> line.bookingOf(house, 1));
        line.pass(60);
        Check.due(IsleBoats.ARRIVED, () -> line.sailingOf(out, 0));
        Check.due(460, () -> line.gap(isle, 1));
        line.swell(isle, 9);
        line.pass(1280);
        Check.due(IsleBoats.CANCELLED, () -> line.sailingOf(later, 0));
        Check.due(5, () -> line.sailingOf(later, 1));
        Check.due(IsleBoats.LEFT, () -> line.bookingOf(house, 0));
        Check.due(5, () -> line.gap(isle, 2));
        Check.due(0.5, () -> line.performance());
        Check.due(500, () -> line.penalty());
    }

    private static void standsHereWordForWord() throws IOException {
        List<String> here = Files.readAllLines(Path.of("src/test/java/ReadmeTest.java"));
        List<String> readme = Files.readAllLines(Path.of("README.md"));
        int begin = readme.indexOf("```java");
        Check.yes(true, () -> begin >= 0);
        int found = 0;
        for (int i = begin + 1; i < readme.size() && !readme.get(i).startsWith("```"); i++) {
            String call = readme.get(i).replaceAll(" *//.*", "");
            String asked = call.replaceAll(";$", "");
            boolean isHere = here.stream().anyMatch(own -> own.strip().equals(call) || own.contains("() -> " + asked + ")"));
            if (!isHere) {
                System.out.println("not in this test: " + call);
            }
            Check.yes(true, () -> isHere);
            found++;
        }
        int lines = found;
        Check.yes(true, () -> lines >= 20);
    }
}
