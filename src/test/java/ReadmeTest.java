import java.io.IOException;
import java.nio.file.Files;
import java.nio.file.Path;

/** Promises 1 to 4, 7 to 11, 13, 15, 17, 18: the example of README.md does what stands there. */
public final class ReadmeTest {
    private static int put = 0;

    public static void main(String[] args) throws IOException {
        example();
        sameCalls();
        Check.end();
    }

    private static void example() {
        BusServo servo = new BusServo(5);
        Check.same("the first frame", servo.nextIdentifier(), 0x705);
        Check.same("SHUT", servo.receive(0x605, 8, 0x0006_00_6040_2BL), 4);
        Check.holds("tick", servo.tick(40));
        Check.same("READY", servo.power(), 2);
        Check.same("RUN", servo.receive(0x605, 8, 0x000F_00_6040_2BL), 4);
        Check.same("TARGET", servo.receive(0x605, 8, 0x01F4_00_607A_23L), 4);
        Check.same("stage on", servo.run(60), 59);
        Check.same("P", servo.position(), 500);
        Check.same("to OPERATING", servo.receive(0, 2, 0x00_01L), 1);
        Check.same("SAVE", servo.receive(0x605, 8, 0x65766173_01_1010_23L), 4);
        Check.same("23 ticks", servo.run(23), 23);
        Check.same("serial", servo.word(0, 0), 1);
        Check.same("STATUS", servo.object(0x6041, 0), 0x627);
        Check.same("waiting", servo.waiting(), 6);
        while (servo.waiting() > 0) {
            put(servo.nextIdentifier(), servo.nextLength(), servo.nextData());
            servo.take();
        }
        Check.same("put on the bus", put, 6);
    }

    private static void put(int identifier, int length, long data) {
        Check.holds("a frame", identifier > 0 && length > 0);
        put++;
    }

    /** Each line of the README's Java, but for its comment, stands in this file too. */
    private static void sameCalls() throws IOException {
        String test = Files.readString(Path.of("src/test/java/ReadmeTest.java"));
        boolean inside = false;
        for (String line : Files.readAllLines(Path.of("README.md"))) {
            if (line.startsWith("```")) {
                inside = line.equals("```java");
            } else if (inside) {
                String call = line.replaceAll("//.*", "").replaceAll(";\\s*$", "").trim();
                Check.holds("tested: " + call, test.contains(call));
            }
        }
    }
}
