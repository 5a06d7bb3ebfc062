/** The term FRAMES: each sentence of it that names an edge, with a test of its own. */
public final class FramesEdgesTest {
    public static void main(String[] args) {
        identifiersAndLengths();
        bytesOfSentFrames();
        bytesFromTheLengthOn();
        lowestByteFirst();
        leastIdentifier();
        sentFirst();
        lostWhileTwelveWait();
        lostWhileTheBusIsOff();
        Check.end();
    }

    private static void identifiersAndLengths() {
        Check.sentence("FRAMES have an IDENTIFIER 0 .. 2047, a LENGTH 0 .. 8 and that many bytes");
        BusServo servo = new BusServo(5);
        Check.same("identifier -1", servo.receive(-1, 2, 1), BusServo.REFUSED);
        Check.same("identifier 0", servo.receive(0, 2, 1), 1);
        Check.same("identifier 2047", servo.receive(2047, 2, 1), 0);
        Check.same("identifier 2048", servo.receive(2048, 2, 1), BusServo.REFUSED);
        Check.same("length -1", servo.receive(0x80, -1, 0), BusServo.REFUSED);
        Check.same("length 0", servo.receive(0x80, 0, 0), 2);
        Check.same("length 8", servo.receive(0x80, 8, 0), 2);
        Check.same("length 9", servo.receive(0x80, 9, 0), BusServo.REFUSED);
    }

    private static void bytesOfSentFrames() {
        Check.sentence("in a long byte k (from 0) is the bits 8k .. 8k + 7");
        Bench bench = new Bench(5);
        bench.drain();
        bench.servo.receive(0x605, 8, 0xFFFFFFFF_FF_FFFF_40L);
        bench.expect("all bytes of an answer", 0x585, 8, 0x06020000_FF_FFFF_80L);
        bench.map(0x1A00, 0x60640020, 0x607A0020);
        bench.set(0x607A, 0, 4, -2);
        bench.operate();
        bench.drain();
        bench.servo.tick(0x01234);
        bench.expect("eight bytes, the last ones 0xFF", 0x185, 8, 0xFFFFFFFE_00001234L);
    }

    private static void bytesFromTheLengthOn() {
        Check.sentence("and the bytes from the length on are 0");
        Bench bench = new Bench(5);
        Check.same("the start", bench.servo.nextData(), 0);
        bench.map(0x1A00, 0x60640020);
        bench.set(0x1017, 0, 2, 1);
        bench.operate();
        bench.drain();
        bench.servo.tick(-1);
        bench.expect("a negative number in four bytes", 0x185, 4, 0xFFFFFFFFL);
        bench.expect("a heartbeat", 0x705, 1, 5);
        bench.prepare();
        bench.map(0x1A00, 0x60600008, 0x60640020);
        bench.operate();
        bench.drain();
        bench.servo.tick(-1000000);
        bench.expect("in five bytes", 0x185, 5, 0xFFF0BDC0_01L);
    }

    private static void lowestByteFirst() {
        Check.sentence("Numbers of two or four bytes have their lowest byte first.");
        Bench bench = new Bench(5);
        bench.drain();
        bench.servo.receive(0x605, 8, 0x00001234_00_1017_2BL);
        bench.expect("a write of two bytes", 0x585, 8, 0x00_1017_60L);
        Check.same("BEAT", bench.value(0x1017, 0), 0x1234);
        bench.servo.receive(0x605, 8, 0x00_1017_40L);
        bench.expect("a read of two bytes", 0x585, 8, 0x00001234_00_1017_4BL);
        bench.servo.receive(0x605, 8, 0x00012345_00_607A_23L);
        bench.expect("a write of four bytes", 0x585, 8, 0x00_607A_60L);
        Check.same("TARGET", bench.value(0x607A, 0), 0x12345);
        bench.servo.receive(0x605, 8, 0x00_607A_40L);
        bench.expect("a read of four bytes", 0x585, 8, 0x00012345_00_607A_43L);
    }

    /** In the order of being sent: a heartbeat, OUT, an answer, an EMERGENCY. */
    private static void leastIdentifier() {
        Check.sentence("the frame with the least identifier, of equal ones the one sent first, is the NEXT one");
        Bench bench = new Bench(5);
        bench.set(0x1017, 0, 2, 1);
        bench.set(0x1016, 1, 4, 9 << 16 | 2);
        bench.operate();
        bench.servo.receive(0x709, 1, 5);
        bench.drain();
        bench.servo.tick(0);
        bench.send(0x40, 0x1001, 0, 0);
        Check.same("OUT before the heartbeat", bench.servo.nextIdentifier(), 0x185);
        bench.servo.tick(0);
        int[] identifiers = {0x85, 0x185, 0x185, 0x585, 0x705, 0x705};
        for (int identifier : identifiers) {
            Check.same("the least of those that wait", bench.servo.nextIdentifier(), identifier);
            bench.servo.take();
        }
        bench.expectNothing("at the end");
    }

    private static void sentFirst() {
        Check.sentence("of equal ones the one sent first");
        Bench bench = new Bench(5);
        bench.drain();
        for (int value = 1; value <= 6; value++) {
            bench.send(0x23, 0x6081, 0, value);
            bench.send(0x40, 0x6081, 0, 0);
        }
        for (int value = 1; value <= 6; value++) {
            bench.expect("the write of " + value, 0x585, 8, Bench.frame(0x60, 0x6081, 0, 0));
            bench.expect("the read of " + value, 0x585, 8, Bench.frame(0x43, 0x6081, 0, value));
        }
    }

    private static void lostWhileTwelveWait() {
        Check.sentence("A frame that is sent while 12 wait, or while the bus is off, is LOST.");
        Bench bench = new Bench(5);
        bench.fillTo(11);
        bench.send(0x40, 0x6081, 0, 0);
        Check.same("while 11 wait: waiting", bench.servo.waiting(), 12);
        Check.same("while 11 wait: lost", bench.servo.lost(), 0);
        bench.send(0x40, 0x6081, 0, 0);
        Check.same("while 12 wait: waiting", bench.servo.waiting(), 12);
        Check.same("while 12 wait: lost", bench.servo.lost(), 1);
        bench.operate();
        bench.servo.tick(0);
        Check.same("a lesser identifier is lost too", bench.servo.lost(), 2);
        Check.same("and those that wait stay", bench.servo.nextIdentifier(), 0x585);
        for (int k = 0; k < 11; k++) {
            Check.same("an answer", bench.servo.nextIdentifier(), 0x585);
            bench.servo.take();
        }
        bench.expect("the first one of all", 0x705, 1, 0);
        bench.expectNothing("no lost one comes back");
    }

    private static void lostWhileTheBusIsOff() {
        Check.sentence("or while the bus is off, is LOST");
        Bench bench = new Bench(5);
        bench.set(0x1017, 0, 2, 1);
        bench.servo.bus(false);
        int lost = bench.servo.lost();
        bench.servo.run(3);
        Check.same("three heartbeats", bench.servo.lost(), lost + 3);
        bench.expectNothing("none waits");
        bench.servo.bus(true);
        bench.expectNothing("nor when the bus is on again");
        bench.servo.run(1);
        Check.same("with the bus on: lost", bench.servo.lost(), lost + 3);
        Check.same("with the bus on: waiting", bench.servo.waiting(), 1);
    }
}
