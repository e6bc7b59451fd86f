import java.io.IOException;
import java.nio.file.Files;
import java.nio.file.Path;

/** The example of README.md: that it is still the one below, and that its answers are as it says. */
public final class ReadmeTest {
    private static final String[] EXAMPLE = {
        "GhostKeys x = new GhostKeys();",
        "x.map(0, 0, GhostKeys.CODE, 20, 0);",
        "x.map(1, 0, GhostKeys.CODE, 21, 0);",
        "x.map(0, 1, GhostKeys.TAP, 30, 1);",
        "x.chord(0, 0b1100, 40);",
        "",
        "x.wire(0, true);",
        "int events = x.scans(5);",
        "while (x.poll()) {",
        "int modifiers = x.report(0);",
        "int firstCode = x.report(1);",
        "}",
        "x.wire(0, false);",
        "x.scans(5);",
        "x.poll();",
        "",
        "x.wire(1, true);",
        "x.scans(5);",
        "x.scans(20);",
    };

    public static void main(String[] args) throws IOException {
        exampleIsThatOfTheReadme();
        exampleAnswersAsItSays();
        exampleGoesOnByChordAndTap();
        Check.end();
    }

    /** .ci/run starts the tests where README.md lies. */
    private static void exampleIsThatOfTheReadme() throws IOException {
        String text = Files.readString(Path.of("README.md"));
        String block = text.substring(text.indexOf("```java\n") + 8);
        String[] lines = block.substring(0, block.indexOf("\n```")).split("\n");
        Check.due("lines of the example", lines.length, EXAMPLE.length);
        for (int i = 0; i < Math.min(lines.length, EXAMPLE.length); i++) {
            String code = lines[i].replaceAll("//.*", "").trim();
            Check.due("line " + i + " of the example, " + code, code.equals(EXAMPLE[i]), true);
        }
    }

    private static GhostKeys laidOut() {
        GhostKeys x = new GhostKeys();
        x.map(0, 0, GhostKeys.CODE, 20, 0);
        x.map(1, 0, GhostKeys.CODE, 21, 0);
        x.map(0, 1, GhostKeys.TAP, 30, 1);
        x.chord(0, 0b1100, 40);
        return x;
    }

    private static void exampleAnswersAsItSays() {
        GhostKeys x = laidOut();
        x.wire(0, true);
        Check.due("events", x.scans(5), 1);
        Check.report("key 0", x, 0, 20);
        Check.due("here one report", x.poll(), false);
        x.wire(0, false);
        x.scans(5);
        Check.report("nothing is down", x, 0);
        x.wire(1, true);
        x.scans(5);
        Check.due("not decided yet", x.queued(), 1);
        Check.due("layer 1 is not on yet", x.on(1), false);
        x.scans(20);
        Check.due("held: layer 1 is on", x.on(1), true);
        Check.due("held: the layer of key 0", x.top(0), 1);
        Check.press(x, 0);
        Check.report("key 0 in layer 1", x, 0, 21);
    }

    private static void exampleGoesOnByChordAndTap() {
        GhostKeys x = laidOut();
        Check.press(x, 2, 3);
        Check.report("keys 2 and 3 together", x, 0, 40);
        Check.release(x, 2, 3);
        Check.report("the chord let go", x, 0);
        Check.tap(x, 1);
        Check.report("key 1 tapped", x, 0, 30);
        Check.report("and let go", x, 0);
        Check.due("a tap holds no layer", x.on(1), false);
    }
}
