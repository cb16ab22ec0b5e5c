import java.util.Arrays;

/** Promises 11 and 12, sentence by sentence: each byte turned alone, and each beginning. */
public final class TrialsTest {
    private static final Check CHECK = new Check();

    public static void main(String[] args) {
        guarded();
        guardedOfFull();
        guardedBad();
        guardedMask();
        beginnings();
        beginningsOfFull();
        beginningsBad();
        nothingChanges();
        CHECK.done();
    }

    private static int guardedByHand(byte[] file, int mask) {
        int many = 0;
        for (int i = 0; i < file.length; i++) {
            byte[] other = file.clone();
            other[i] ^= (byte) mask;
            many += Check.fed(other).judge() == 0 ? 0 : 1;
        }
        return many;
    }

    /** A FILE of so many bytes: two methods with much CODE, and a TEXT. */
    private static byte[] ofLength(int length) {
        Maker m = new Maker(52);
        int[] code = new int[1700];
        code[1699] = 177;
        for (int i = 0; i < 1698; i += 3) {
            code[i] = 153;
            code[i + 2] = 3;
        }
        m.open(0x21).u2(0, 2).member("m", 8, "a", "()V").u2(1).code("c", 0, 0, code);
        m.member("m", 8, "b", "()V").u2(1).code("c", 0, 0, code).u2(0);
        m.text("x".repeat(length - m.file().length - 3));
        return m.file();
    }

    private static void guarded() {
        CHECK.says("How many of the FILE's bytes, each turned alone by a mask (1 .. 255), make it one that does not pass");
        for (byte[] file : Samples.all()) {
            CodeGate gate = Check.fed(file);
            for (int mask : new int[] {1, 2, 4, 8, 16, 32, 64, 128, 254, 255, 0x21}) {
                CHECK.due("guarded(" + mask + ")", gate.guarded(mask), guardedByHand(file, mask));
            }
            CHECK.holds("guarded", gate, file);
        }
        byte[] small = Samples.small();
        CodeGate gate = Check.fed(small);
        for (int mask = 1; mask <= 255; mask++) {
            CHECK.due("guarded(" + mask + ") of a small one", gate.guarded(mask), guardedByHand(small, mask));
        }
    }

    private static void guardedOfFull() {
        CHECK.says("How many of the FILE's bytes (4000 of them)");
        byte[] file = ofLength(4000);
        CodeGate gate = Check.fed(file);
        for (int mask : new int[] {1, 0x10, 255}) {
            CHECK.due("guarded(" + mask + ")", gate.guarded(mask), guardedByHand(file, mask));
        }
        CHECK.holds("guarded of a full one", gate, file);
    }

    private static void guardedBad() {
        CHECK.says("if it passes, else BAD.");
        for (byte[] file : Samples.all()) {
            CodeGate gate = Check.fed(file);
            gate.judge();
            gate.turn(0, 1);
            CHECK.due("guarded of one that does not pass now", gate.guarded(1), CodeGate.BAD);
            CHECK.holds("refused", gate, turned(file, 0, 1));
            gate.turn(0, 1);
            gate.cut(1);
            CHECK.due("guarded of a beginning", gate.guarded(255), CodeGate.BAD);
            CHECK.holds("refused", gate, Arrays.copyOf(file, file.length - 1));
            gate.feed(file[file.length - 1] << 24, 0, 0, 0, 1);
            CHECK.due("guarded of one that passes now", gate.guarded(1) > 0 ? 1 : 0, 1);
            gate.feed(0, 0, 0, 0, 1);
            CHECK.due("guarded with a byte behind", gate.guarded(1), CodeGate.BAD);
        }
        CHECK.due("guarded of the empty FILE", new CodeGate().guarded(1), CodeGate.BAD);
    }

    private static byte[] turned(byte[] file, int at, int mask) {
        byte[] other = file.clone();
        other[at] ^= (byte) mask;
        return other;
    }

    private static void guardedMask() {
        CHECK.says("BAD: the mask.");
        byte[] file = Samples.small();
        CodeGate gate = Check.fed(file);
        gate.judge();
        for (int mask : new int[] {0, -1, 256, 257, 511, 512, 0x1FF, -255, -256, Integer.MIN_VALUE, Integer.MIN_VALUE + 1, Integer.MAX_VALUE}) {
            CHECK.due("guarded(" + mask + ")", gate.guarded(mask), CodeGate.BAD);
        }
        CHECK.holds("refused masks", gate, file);
        CHECK.due("guarded(1)", gate.guarded(1) > 0 ? 1 : 0, 1);
        CHECK.due("guarded(255)", gate.guarded(255) > 0 ? 1 : 0, 1);
        CHECK.due("a wrong mask of the empty FILE", new CodeGate().guarded(0), CodeGate.BAD);
    }

    private static void beginnings() {
        CHECK.says("How many of its beginnings (0 .. length - 1 bytes) do not pass, each by RULE 1 at its length");
        for (byte[] file : Samples.all()) {
            CHECK.due("beginnings()", Check.fed(file).beginnings(), file.length);
            for (int length = 0; length < file.length; length++) {
                CHECK.breaks("the first " + length, Arrays.copyOf(file, length), 1, length);
            }
        }
    }

    private static void beginningsOfFull() {
        CHECK.says("How many of its beginnings (4000 of them)");
        byte[] file = ofLength(4000);
        CodeGate gate = Check.fed(file);
        CHECK.due("beginnings()", gate.beginnings(), 4000);
        CHECK.holds("beginnings of a full one", gate, file);
        for (int length = 0; length < 4000; length++) {
            CHECK.breaks("the first " + length, Arrays.copyOf(file, length), 1, length);
        }
    }

    private static void beginningsBad() {
        CHECK.says("(beginnings) if it passes, else BAD.");
        CHECK.due("beginnings of the empty FILE", new CodeGate().beginnings(), CodeGate.BAD);
        for (byte[] file : Samples.all()) {
            CodeGate gate = Check.fed(file);
            gate.judge();
            gate.turn(3, 0x40);
            CHECK.due("beginnings of one that does not pass now", gate.beginnings(), CodeGate.BAD);
            gate.turn(3, 0x40);
            gate.cut(1);
            CHECK.due("beginnings of a beginning", gate.beginnings(), CodeGate.BAD);
            gate.feed(file[file.length - 1] << 24, 0, 0, 0, 1);
            CHECK.due("beginnings of one that passes now", gate.beginnings(), file.length);
            gate.feed(0, 0, 0, 0, 1);
            CHECK.due("beginnings with a byte behind", gate.beginnings(), CodeGate.BAD);
        }
    }

    private static void nothingChanges() {
        CHECK.says("Nothing is promised beyond the answers and state changes described above (guarded and beginnings change nothing)");
        byte[] file = Samples.rich(52);
        CodeGate gate = Check.fed(file);
        gate.guarded(1);
        gate.beginnings();
        CHECK.due("rule ahead of judge()", gate.rule(), 0);
        CHECK.due("told ahead of judge()", gate.told(0), CodeGate.BAD);
        gate.judge();
        int[] due = new int[9];
        for (int what = 0; what < 9; what++) {
            due[what] = gate.told(what);
        }
        CHECK.due("guarded", gate.guarded(7) > 0 ? 1 : 0, 1);
        CHECK.due("beginnings", gate.beginnings(), file.length);
        CHECK.due("guarded, refused", gate.guarded(0), CodeGate.BAD);
        for (int what = 0; what < 9; what++) {
            CHECK.due("told(" + what + ")", gate.told(what), due[what]);
        }
        CHECK.due("rule", gate.rule(), 0);
        CHECK.holds("trials", gate, file);
        gate.turn(5, 1);
        gate.judge();
        gate.turn(5, 1);
        CHECK.due("guarded", gate.guarded(7) > 0 ? 1 : 0, 1);
        CHECK.due("beginnings", gate.beginnings(), file.length);
        CHECK.due("rule of the one that was judged", gate.rule(), 3);
        CHECK.due("told of the one that was judged", gate.told(0), CodeGate.BAD);
    }
}
