/** Promises 1 to 5: the FILE's bytes. */
public final class BytesTest {
    private static final Check CHECK = new Check();

    public static void main(String[] args) {
        newObject();
        feed();
        feedRefused();
        full();
        cut();
        turn();
        byteAt();
        CHECK.done();
    }

    private static void newObject() {
        CodeGate gate = new CodeGate();
        CHECK.due("new: byteAt(0)", gate.byteAt(0), CodeGate.BAD);
        CHECK.due("new: cut(1)", gate.cut(1), CodeGate.BAD);
        CHECK.due("new: rule()", gate.rule(), 0);
        CHECK.due("new: told(0)", gate.told(0), CodeGate.BAD);
        CHECK.due("new: method(0, 0)", gate.method(0, 0), CodeGate.BAD);
        CHECK.due("new: entry(1)", gate.entry(1), CodeGate.BAD);
        CHECK.due("new: guarded(1)", gate.guarded(1), CodeGate.BAD);
        CHECK.due("new: beginnings()", gate.beginnings(), CodeGate.BAD);
        CHECK.due("new: rule() behind these", gate.rule(), 0);
        CHECK.due("new: judge()", gate.judge(), 1);
        CHECK.due("new: rule() behind judge()", gate.rule(), 1);
    }

    private static void feed() {
        for (int n = 1; n <= 16; n++) {
            CodeGate gate = new CodeGate();
            CHECK.due("feed " + n, gate.feed(0x80818283, 0x84858687, 0x88898A8B, 0x8C8D8E8F, n), n);
            for (int i = 0; i < n; i++) {
                CHECK.due("feed " + n + ", byte " + i, gate.byteAt(i), 0x80 + i);
            }
            CHECK.due("feed " + n + ", behind it", gate.byteAt(n), CodeGate.BAD);
        }
        CodeGate gate = new CodeGate();
        gate.feed(0x01020304, 0, 0, 0, 3);
        CHECK.due("second feed", gate.feed(0x7F000000, 0, 0, 0, 1), 4);
        CHECK.due("second feed's byte", gate.byteAt(3), 0x7F);
    }

    private static void feedRefused() {
        CodeGate gate = new CodeGate();
        for (int n : new int[] {0, 17, -1, Integer.MIN_VALUE, Integer.MAX_VALUE}) {
            CHECK.due("feed " + n, gate.feed(1, 2, 3, 4, n), CodeGate.BAD);
        }
        CHECK.due("nothing was fed", gate.byteAt(0), CodeGate.BAD);
    }

    private static void full() {
        CodeGate gate = new CodeGate();
        for (int i = 0; i < 249; i++) {
            gate.feed(i, i, i, i, 16);
        }
        CHECK.due("feed up to 3985", gate.feed(0, 0, 0, 0, 1), 3985);
        CHECK.due("feed beyond 4000", gate.feed(0, 0, 0, 0, 16), CodeGate.FULL);
        CHECK.due("nothing came", gate.byteAt(3985), CodeGate.BAD);
        CHECK.due("feed up to 4000", gate.feed(0, 0, 0, 0x00000900, 15), 4000);
        CHECK.due("the last byte", gate.byteAt(3999), 9);
        CHECK.due("feed of a full one", gate.feed(0, 0, 0, 0, 1), CodeGate.FULL);
        CHECK.due("wrong number ahead of full", gate.feed(0, 0, 0, 0, 17), CodeGate.BAD);
        CHECK.due("cut of all", gate.cut(4000), 0);
        CHECK.due("feed again", gate.feed(0, 0, 0, 0, 16), 16);
    }

    private static void cut() {
        CodeGate gate = new CodeGate();
        gate.feed(0x01020304, 0x05060708, 0, 0, 8);
        CHECK.due("cut 9", gate.cut(9), CodeGate.BAD);
        CHECK.due("cut -1", gate.cut(-1), CodeGate.BAD);
        CHECK.due("cut the least", gate.cut(Integer.MIN_VALUE), CodeGate.BAD);
        CHECK.due("cut 0", gate.cut(0), 8);
        CHECK.due("cut 3", gate.cut(3), 5);
        CHECK.due("byte 4 stays", gate.byteAt(4), 5);
        CHECK.due("byte 5 went", gate.byteAt(5), CodeGate.BAD);
        CHECK.due("cut 5", gate.cut(5), 0);
        CHECK.due("cut 1 of none", gate.cut(1), CodeGate.BAD);
    }

    private static void turn() {
        CodeGate gate = new CodeGate();
        gate.feed(0x0FF00000, 0, 0, 0, 2);
        CHECK.due("turn by FF", gate.turn(0, 0xFF), 0xF0);
        CHECK.due("it stays turned", gate.byteAt(0), 0xF0);
        CHECK.due("turn by 12301", gate.turn(1, 0x12301), 0xF1);
        CHECK.due("turn by -1", gate.turn(1, -1), 0x0E);
        CHECK.due("turn by 256", gate.turn(1, 256), 0x0E);
        CHECK.due("turn behind the end", gate.turn(2, 1), CodeGate.BAD);
        CHECK.due("turn ahead of it", gate.turn(-1, 1), CodeGate.BAD);
        CHECK.due("turn far behind", gate.turn(Integer.MAX_VALUE, 1), CodeGate.BAD);
        CHECK.due("the other byte", gate.byteAt(0), 0xF0);
    }

    private static void byteAt() {
        CodeGate gate = new CodeGate();
        gate.feed(0xFF000000, 0, 0, 0, 1);
        CHECK.due("a high byte", gate.byteAt(0), 255);
        for (int i : new int[] {-1, 1, 3999, 4000, Integer.MIN_VALUE, Integer.MAX_VALUE}) {
            CHECK.due("byteAt " + i, gate.byteAt(i), CodeGate.BAD);
        }
    }
}
