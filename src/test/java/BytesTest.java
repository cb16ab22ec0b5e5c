import java.util.Arrays;

/** Promises 1 to 5, sentence by sentence: the FILE's bytes. */
public final class BytesTest {
    private static final int[] FAR = {Integer.MIN_VALUE, Integer.MIN_VALUE + 1, Integer.MAX_VALUE - 1, Integer.MAX_VALUE};
    private static final Check CHECK = new Check();

    public static void main(String[] args) {
        newObject();
        feed();
        feedBehind();
        feedBad();
        feedFull();
        cut();
        cutBad();
        turn();
        turnBad();
        byteAt();
        byteAtBad();
        CHECK.done();
    }

    private static byte[] bytes(int many) {
        byte[] row = new byte[many];
        for (int i = 0; i < many; i++) {
            row[i] = (byte) (i * 7 + 0x80);
        }
        return row;
    }

    private static void newObject() {
        CHECK.says("An empty FILE.");
        CodeGate gate = new CodeGate();
        CHECK.due("byteAt(0)", gate.byteAt(0), CodeGate.BAD);
        CHECK.due("turn(0, 1)", gate.turn(0, 1), CodeGate.BAD);
        CHECK.due("cut(1)", gate.cut(1), CodeGate.BAD);
        CHECK.due("cut(0)", gate.cut(0), 0);
        CHECK.due("rule()", gate.rule(), 0);
        CHECK.due("told(0)", gate.told(0), CodeGate.BAD);
        CHECK.due("method(0, 0)", gate.method(0, 0), CodeGate.BAD);
        CHECK.due("entry(1)", gate.entry(1), CodeGate.BAD);
        CHECK.due("guarded(1)", gate.guarded(1), CodeGate.BAD);
        CHECK.due("beginnings()", gate.beginnings(), CodeGate.BAD);
        CHECK.due("rule() behind these", gate.rule(), 0);
        CHECK.due("judge()", gate.judge(), 1);
        CHECK.due("rule() behind judge()", gate.rule(), 1);
        CHECK.due("the first feed", gate.feed(5 << 24, 0, 0, 0, 1), 1);
        CHECK.due("the constant BAD", CodeGate.BAD, -1);
        CHECK.due("the constant FULL", CodeGate.FULL, -2);
    }

    private static void feed() {
        CHECK.says("n bytes (1 .. 16) of four ints, the highest of each first");
        for (int n = 1; n <= 16; n++) {
            CodeGate gate = new CodeGate();
            CHECK.due("feed of " + n, gate.feed(0x80818283, 0x04050607, 0xF8F9FAFB, 0x7C7D7E7F, n), n);
            int[] due = {0x80, 0x81, 0x82, 0x83, 4, 5, 6, 7, 0xF8, 0xF9, 0xFA, 0xFB, 0x7C, 0x7D, 0x7E, 0x7F};
            for (int i = 0; i < n; i++) {
                CHECK.due("feed of " + n + ", byte " + i, gate.byteAt(i), due[i]);
            }
            CHECK.due("feed of " + n + ", behind it", gate.byteAt(n), CodeGate.BAD);
        }
    }

    private static void feedBehind() {
        CHECK.says("come behind the FILE: how many it has.");
        CodeGate gate = new CodeGate();
        int many = 0;
        for (int n = 16; n >= 1; n--) {
            many += n;
            CHECK.due("feed of " + n, gate.feed(n << 24, 0, 0, 0, n), many);
            CHECK.due("its first byte", gate.byteAt(many - n), n);
        }
        CHECK.due("the first byte of all", gate.byteAt(0), 16);
        CHECK.due("cut(1)", gate.cut(1), many - 1);
        CHECK.due("feed behind a cut", gate.feed(0x7F000000, 0, 0, 0, 1), many);
        CHECK.due("its byte", gate.byteAt(many - 1), 0x7F);
    }

    private static void feedBad() {
        CHECK.says("BAD (feed): n is not 1 .. 16");
        for (int have : new int[] {0, 5, 3990, 4000}) {
            byte[] file = bytes(have);
            CodeGate gate = Check.fed(file);
            for (int n : new int[] {0, 17, -1, 18, 32, 256, 4000, 4001}) {
                CHECK.due("feed of " + n + " to " + have, gate.feed(1, 2, 3, 4, n), CodeGate.BAD);
            }
            for (int n : FAR) {
                CHECK.due("feed of " + n + " to " + have, gate.feed(1, 2, 3, 4, n), CodeGate.BAD);
            }
            CHECK.holds("refused feeds to " + have, gate, file);
        }
    }

    private static void feedFull() {
        CHECK.says("FULL (feed): THE FILE has 4000 bytes at most");
        for (int have = 3983; have <= 4000; have++) {
            for (int n = 1; n <= 16; n++) {
                byte[] file = bytes(have);
                CodeGate gate = Check.fed(file);
                boolean fits = have + n <= 4000;
                CHECK.due("feed of " + n + " to " + have, gate.feed(0, 0, 0, 0, n), fits ? have + n : CodeGate.FULL);
                if (fits) {
                    CHECK.due("the last byte", gate.byteAt(have + n - 1), 0);
                    CHECK.due("the last byte ahead", gate.byteAt(have - 1), file[have - 1] & 255);
                } else {
                    CHECK.due("nothing came", gate.byteAt(have), CodeGate.BAD);
                    CHECK.due("nothing went", gate.byteAt(have - 1), file[have - 1] & 255);
                }
            }
        }
        CodeGate gate = Check.fed(bytes(4000));
        CHECK.due("feed to a full one", gate.feed(0, 0, 0, 0, 1), CodeGate.FULL);
        CHECK.holds("a full one", gate, bytes(4000));
        CHECK.due("cut of one", gate.cut(1), 3999);
        CHECK.due("feed of two", gate.feed(0, 0, 0, 0, 2), CodeGate.FULL);
        CHECK.due("feed of one", gate.feed(0x0C000000, 0, 0, 0, 1), 4000);
        CHECK.due("its byte", gate.byteAt(3999), 12);
        CHECK.due("cut of all", gate.cut(4000), 0);
        CHECK.due("feed again", gate.feed(0x01020304, 0, 0, 0, 16), 16);
        CHECK.due("the first byte", gate.byteAt(0), 1);
        CHECK.due("behind the last", gate.byteAt(16), CodeGate.BAD);
    }

    private static void cut() {
        CHECK.says("The last n bytes go: how many it has.");
        for (int have : new int[] {0, 1, 2, 8, 17, 4000}) {
            byte[] file = bytes(have);
            for (int n : new int[] {0, 1, have / 2, have - 1, have}) {
                if (n >= 0 && n <= have) {
                    CodeGate gate = Check.fed(file);
                    CHECK.due("cut(" + n + ") of " + have, gate.cut(n), have - n);
                    CHECK.holds("cut(" + n + ") of " + have, gate, Arrays.copyOf(file, have - n));
                }
            }
        }
        CodeGate gate = Check.fed(Samples.small());
        int length = Samples.small().length;
        CHECK.due("cut(1)", gate.cut(1), length - 1);
        CHECK.due("the byte that went is not read", gate.judge(), length);
        CHECK.due("turn of the byte that went", gate.turn(length - 1, 1), CodeGate.BAD);
    }

    private static void cutBad() {
        CHECK.says("BAD (cut): so many bytes are not there");
        for (int have : new int[] {0, 1, 8, 4000}) {
            byte[] file = bytes(have);
            CodeGate gate = Check.fed(file);
            for (int n : new int[] {have + 1, have + 2, -1, -2, -have - 1, 4001, 65536}) {
                CHECK.due("cut(" + n + ") of " + have, gate.cut(n), CodeGate.BAD);
            }
            for (int n : FAR) {
                CHECK.due("cut(" + n + ") of " + have, gate.cut(n), CodeGate.BAD);
            }
            CHECK.holds("refused cuts of " + have, gate, file);
        }
    }

    private static void turn() {
        CHECK.says("Byte i is turned by the lowest 8 bits of b (^): what it is.");
        CodeGate gate = new CodeGate();
        gate.feed(0x0FF00000, 0, 0, 0, 3);
        CHECK.due("turn by FF", gate.turn(0, 0xFF), 0xF0);
        CHECK.due("it stays turned", gate.byteAt(0), 0xF0);
        CHECK.due("turn by 0", gate.turn(0, 0), 0xF0);
        CHECK.due("turn by 12301", gate.turn(1, 0x12301), 0xF1);
        CHECK.due("turn by 1 again", gate.turn(1, 1), 0xF0);
        CHECK.due("turn by -1", gate.turn(1, -1), 0x0F);
        CHECK.due("turn by 100", gate.turn(1, 0x100), 0x0F);
        CHECK.due("turn by FFFFFF00", gate.turn(1, 0xFFFFFF00), 0x0F);
        CHECK.due("turn by the least", gate.turn(1, Integer.MIN_VALUE), 0x0F);
        CHECK.due("turn by the greatest", gate.turn(1, Integer.MAX_VALUE), 0xF0);
        CHECK.due("turn of the last by 80", gate.turn(2, 0x80), 0x80);
        CHECK.due("the first byte", gate.byteAt(0), 0xF0);
        CHECK.due("none came", gate.byteAt(3), CodeGate.BAD);
        gate = Check.fed(bytes(4000));
        CHECK.due("turn of the last of 4000", gate.turn(3999, 0xFF), bytes(4000)[3999] & 255 ^ 255);
        for (int b = 0; b < 256; b++) {
            CHECK.due("turn by " + b, gate.turn(77, b << 8 | b), bytes(78)[77] & 255 ^ b);
            gate.turn(77, b);
        }
    }

    private static void turnBad() {
        CHECK.says("BAD (turn): there is no byte i");
        for (int have : new int[] {0, 1, 8, 4000}) {
            byte[] file = bytes(have);
            CodeGate gate = Check.fed(file);
            for (int i : new int[] {have, have + 1, -1, -2, 4000, 4001}) {
                CHECK.due("turn(" + i + ") of " + have, gate.turn(i, 0xFF), CodeGate.BAD);
            }
            for (int i : FAR) {
                CHECK.due("turn(" + i + ") of " + have, gate.turn(i, 0xFF), CodeGate.BAD);
            }
            CHECK.holds("refused turns of " + have, gate, file);
        }
    }

    private static void byteAt() {
        CHECK.says("Byte i.");
        for (int have : new int[] {1, 2, 256, 4000}) {
            byte[] file = bytes(have);
            CodeGate gate = Check.fed(file);
            for (int i : new int[] {0, have / 2, have - 1}) {
                CHECK.due("byteAt(" + i + ") of " + have, gate.byteAt(i), file[i] & 255);
            }
        }
        for (int b = 0; b < 256; b++) {
            CHECK.due("a byte of " + b, Check.fed(new byte[] {(byte) b}).byteAt(0), b);
        }
    }

    private static void byteAtBad() {
        CHECK.says("BAD (byteAt): there is no byte i");
        for (int have : new int[] {0, 1, 8, 4000}) {
            CodeGate gate = Check.fed(bytes(have));
            for (int i : new int[] {have, have + 1, -1, -2, 4000, 4001}) {
                CHECK.due("byteAt(" + i + ") of " + have, gate.byteAt(i), CodeGate.BAD);
            }
            for (int i : FAR) {
                CHECK.due("byteAt(" + i + ") of " + have, gate.byteAt(i), CodeGate.BAD);
            }
        }
    }
}
