import java.io.IOException;
import java.nio.file.Files;
import java.nio.file.Path;

/** The examples of README.md, which are lines of this test. */
public final class ReadmeTest {
    private static final Check check = new Check();

    public static void main(String[] args) throws IOException {
        examples();
        linesAreThese();
        check.end("ReadmeTest");
    }

    private static void examples() {
        WinderLadders beat = new WinderLadders();
        int clock = beat.hang(7, 12, -25);   // house 7, 12 rungs high, 25 seconds slow in a day
        beat.ladder(15);
        beat.pass(3);
        int minutes = beat.round(1 << clock);   // there, for the ladder, and back: 28 numbers, and the work
        boolean right = beat.of(clock, 7) == 1;
        check.due("minutes", 28 * 5 + 10, minutes);
        check.due("right", 1, right ? 1 : 0);
        beat.undo();   // as if the winder had not gone
        check.due("off", -75, beat.of(clock, 4) - 1000000000);
        check.due("minutes of all", 0, beat.count(6));
        long characters = 0;
        for (char sign : "t2;b0;s".toCharArray()) {
            characters = characters << 8 | sign;
        }
        beat.put(characters);
        int done = beat.fault() == WinderLadders.NONE ? beat.carryOut() : 0;   // 2 days, a beat, the change in spring
        check.due("done", 3, done);
        check.due("days", 5, beat.count(0));
        check.due("off, then", 3600, beat.of(clock, 4) - 1000000000);
        check.due("one change", 3, beat.undo());
    }

    private static void linesAreThese() throws IOException {
        String own = Files.readString(Path.of("src/test/java/ReadmeTest.java"));
        String[] parts = Files.readString(Path.of("README.md")).split("```");
        int found = 0;
        for (String part : parts) {
            if (part.startsWith("java\n")) {
                found++;
                for (String line : part.substring(5).split("\n")) {
                    check.due("the line " + line, 1, own.contains("        " + line + "\n") ? 1 : 0);
                }
            }
        }
        check.due("examples", 2, found);
    }
}
