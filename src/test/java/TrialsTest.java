/** Promises 11 and 12: each byte turned alone, and each beginning. */
public final class TrialsTest {
    private static final Check CHECK = new Check();

    public static void main(String[] args) {
        for (byte[] file : Samples.all()) {
            CHECK.passes("sample", file);
            guarded(file);
            beginnings(file);
        }
        refused();
        largest();
        CHECK.done();
    }

    private static void guarded(byte[] file) {
        CodeGate gate = Check.fed(file);
        for (int mask : new int[] {1, 2, 4, 8, 16, 32, 64, 128, 255, 0x21}) {
            int many = 0;
            for (int i = 0; i < file.length; i++) {
                byte[] other = file.clone();
                other[i] ^= (byte) mask;
                many += Check.fed(other).judge() == 0 ? 0 : 1;
            }
            CHECK.due("guarded(" + mask + ")", gate.guarded(mask), many);
        }
        for (int i = 0; i < file.length; i++) {
            CHECK.due("byte " + i + " stays", gate.byteAt(i), file[i] & 255);
        }
    }

    private static void beginnings(byte[] file) {
        CodeGate gate = Check.fed(file);
        CHECK.due("beginnings()", gate.beginnings(), file.length);
        CHECK.due("the FILE stays", gate.judge(), 0);
        for (int length = file.length - 1; length >= 0; length--) {
            gate.cut(1);
            CHECK.due("judge() of the first " + length, gate.judge(), 1 + length);
            CHECK.due("rule() of the first " + length, gate.rule(), 1);
        }
    }

    private static void refused() {
        CodeGate gate = Check.fed(Samples.small());
        for (int mask : new int[] {0, 256, -1, 257, Integer.MIN_VALUE, Integer.MAX_VALUE}) {
            CHECK.due("guarded(" + mask + ")", gate.guarded(mask), CodeGate.BAD);
        }
        gate.judge();
        gate.turn(0, 1);
        CHECK.due("guarded of one that does not pass now", gate.guarded(1), CodeGate.BAD);
        CHECK.due("beginnings of one that does not pass now", gate.beginnings(), CodeGate.BAD);
        CHECK.due("told of the one that was judged", gate.told(0), 5);
        CHECK.due("rule of the one that was judged", gate.rule(), 0);
    }

    /** A FILE of 4000 bytes: two methods with much CODE, and TEXTS. */
    private static void largest() {
        Maker m = new Maker(52);
        int[] code = new int[1700];
        code[1699] = 177;
        for (int i = 0; i < 1698; i += 3) {
            code[i] = 153;
            code[i + 2] = 3;
        }
        m.open(0x21).u2(0, 2).member("m", 8, "a", "()V").u2(1).code("c", 0, 0, code);
        m.member("m", 8, "b", "()V").u2(1).code("c", 0, 0, code).u2(0);
        m.text("x".repeat(4000 - m.file().length - 3));
        CodeGate gate = Check.fed(m.file());
        CHECK.due("judge()", gate.judge(), 0);
        CHECK.due("beginnings()", gate.beginnings(), 4000);
        CHECK.due("told(6)", gate.told(6), 2 * 566);
        CHECK.due("guarded", gate.guarded(0x10) > 0 ? 1 : 0, 1);
        CHECK.due("byte behind the last", gate.byteAt(4000), CodeGate.BAD);
    }
}
