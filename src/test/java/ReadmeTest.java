import java.io.IOException;
import java.nio.ByteBuffer;
import java.nio.charset.StandardCharsets;
import java.nio.file.Files;
import java.nio.file.Path;

/** The example of README.md does what it says, and stands here word by word. Runs where src/ is. */
public final class ReadmeTest extends Checks {
    public static void main(String[] args) throws IOException {
        example();
        String here = Files.readString(Path.of("src/test/java/ReadmeTest.java"), StandardCharsets.UTF_8);
        String readme = Files.readString(Path.of("README.md"), StandardCharsets.UTF_8);
        int from = readme.indexOf("```java\n");
        int till = readme.indexOf("\n```", from + 1);
        due("there is an example", from >= 0 && till > from, true);
        for (String line : readme.substring(from + 8, till).split("\n")) {
            String call = line.replaceAll(" +// .*", "").trim();
            due("in ReadmeTest too: " + call, here.contains(call), true);
        }
        finish("ReadmeTest");
    }

    private static void example() {
        FaceRows x = new FaceRows();
        int one = x.face(0, 0x0A0A0A0A, 0x0A0A0A0A, 0x0A0A0A0A, 0x0A0A0A0A);
        int other = x.face(0, 0x0C0C0C0C, 0x0C0C0C0C, 0x0C0C0C0C, 0x0C0C0C0C);
        int w = x.witness(0, 0, one, 30, 5, 5);
        x.put(0, one);
        x.put(0, other);
        int odds = x.odds(w, 0, 0, FaceRows.NONE, 0, 0);
        due("the odds of the one seen", odds, 588235);

        byte[] text = "pull 60; sure gap;".getBytes(StandardCharsets.ISO_8859_1);
        ByteBuffer tape = ByteBuffer.allocate((text.length + 19) / 20 * 20).put(text).rewind();
        while (tape.hasRemaining()) {
            x.feed(tape.getInt(), tape.getInt(), tape.getInt(), tape.getInt(), tape.getInt());
        }
        x.end(text.length);
        int lines = x.text(0, 0);
        due("lines", lines, 2);
        due("no fault", x.fault(0), 0);

        int sure = x.sure(w, 0, 0);
        int shown = x.show(w, 0, 0, FaceRows.NONE, 0, 1);
        int then = x.showing(shown, 4);
        int later = x.odds(w, 0, 0, FaceRows.NONE, 0, 1);
        due("sure", sure, 40);
        due("the showing", shown, 0);
        due("odds of the pick ahead of it", then, 352941);
        due("odds of the same pick behind it", later, 470588);
    }
}
