/** Promises 7 to 10: what is told of the FILE that was judged latest. */
public final class ToldTest {
    private static final Check CHECK = new Check();

    public static void main(String[] args) {
        rich();
        entries();
        face();
        notAnswered();
        latestJudge();
        CHECK.done();
    }

    private static void told(CodeGate gate, String what, int... due) {
        for (int i = 0; i < due.length; i++) {
            CHECK.due(what + ": told(" + i + ")", gate.told(i), due[i]);
        }
    }

    private static void method(CodeGate gate, int k, int... due) {
        for (int i = 0; i < due.length; i++) {
            CHECK.due("method(" + k + ", " + i + ")", gate.method(k, i), due[i]);
        }
    }

    private static void rich() {
        byte[] file = Samples.rich(52);
        CodeGate gate = Check.fed(file);
        CHECK.due("judge()", gate.judge(), 0);
        int numbers = (file[8] & 255) << 8 | file[9] & 255;
        told(gate, "rich", numbers, 2, 4, 5, 3 + 30 + 9 + 1, 5 + 71 + 52 + 1, 3 + 4 + 2, 2, 0x421);
        method(gate, 0, 1, 0, 1, 1, 3, 0);
        method(gate, 1, 0x401, 4, 0, 0, 0, 2);
        method(gate, 2, 0x11, 3, 12, 6, 30, 1);
        method(gate, 3, 0x0A, 1, 1, 1, 9, 0);
        method(gate, 4, 8, 0, 0, 0, 1, 0);
    }

    private static void entries() {
        Maker m = new Maker(52);
        int[] numbers = {m.text("a"), m.number(1), m.classOf("B"), m.string("a"), m.field("B", "f", "I"),
            m.method("B", "m", "()V"), m.outer("B", "m", "()V"), m.named("f", "I")};
        int[] kinds = {1, 3, 7, 8, 9, 10, 11, 12};
        int big = m.longNumber(3);
        CodeGate gate = Check.fed(m.open(0x21).u2(0, 0, 0).file());
        CHECK.due("judge()", gate.judge(), 0);
        for (int i = 0; i < kinds.length; i++) {
            CHECK.due("entry(" + numbers[i] + ")", gate.entry(numbers[i]), kinds[i]);
        }
        CHECK.due("entry of a LONG", gate.entry(big), 5);
        CHECK.due("the number behind it", gate.entry(big + 1), 0);
        CHECK.due("the last one", gate.entry(gate.told(0) - 1), 7);
        CHECK.due("behind the last one", gate.entry(gate.told(0)), CodeGate.BAD);
    }

    private static void face() {
        CodeGate gate = Check.fed(Samples.face());
        CHECK.due("judge()", gate.judge(), 0);
        told(gate, "face", gate.told(0), 1, 1, 3, 8, 4 + 6, 0, 0, 0x601);
        method(gate, 0, 0x401, 1, 0, 0, 0, 0);
        method(gate, 1, 9, 1, 2, 1, 4, 0);
    }

    private static void notAnswered() {
        CodeGate gate = Check.fed(Samples.rich(52));
        CHECK.due("told ahead of judge()", gate.told(0), CodeGate.BAD);
        CHECK.due("method ahead of judge()", gate.method(0, 0), CodeGate.BAD);
        CHECK.due("entry ahead of judge()", gate.entry(1), CodeGate.BAD);
        CHECK.due("rule ahead of judge()", gate.rule(), 0);
        gate.judge();
        for (int wrong : new int[] {-1, 9, Integer.MIN_VALUE, Integer.MAX_VALUE}) {
            CHECK.due("told(" + wrong + ")", gate.told(wrong), CodeGate.BAD);
            CHECK.due("method(0, " + wrong + ")", gate.method(0, wrong), CodeGate.BAD);
            CHECK.due("method(" + wrong + ", 0)", gate.method(wrong, 0), CodeGate.BAD);
        }
        CHECK.due("method(0, 6)", gate.method(0, 6), CodeGate.BAD);
        CHECK.due("method(5, 0)", gate.method(5, 0), CodeGate.BAD);
        for (int wrong : new int[] {0, -1, gate.told(0), 300, 301, Integer.MIN_VALUE, Integer.MAX_VALUE}) {
            CHECK.due("entry(" + wrong + ")", gate.entry(wrong), CodeGate.BAD);
        }
    }

    /** Neither a changed FILE nor a trial changes what the latest judge() found. */
    private static void latestJudge() {
        CodeGate gate = Check.fed(Samples.rich(52));
        gate.judge();
        int kind = gate.entry(1);
        gate.turn(0, 1);
        gate.beginnings();
        gate.guarded(1);
        told(gate, "turned", gate.told(0), 2, 4, 5, 43, 129, 9, 2, 0x421);
        CHECK.due("entry of a turned FILE", gate.entry(1), kind);
        CHECK.due("rule of a turned FILE", gate.rule(), 0);
        CHECK.due("judge of a turned FILE", gate.judge(), 1);
        CHECK.due("told of one that does not pass", gate.told(3), CodeGate.BAD);
        CHECK.due("method of one that does not pass", gate.method(0, 0), CodeGate.BAD);
        CHECK.due("entry of one that does not pass", gate.entry(1), CodeGate.BAD);
        gate.turn(0, 1);
        CHECK.due("guarded of one that was not judged", gate.guarded(0x20) > 0 ? 1 : 0, 1);
        CHECK.due("the rule stays", gate.rule(), 2);
        CHECK.due("told stays", gate.told(3), CodeGate.BAD);
        gate.cut(gate.beginnings());
        Check.feedAll(gate, Samples.small());
        CHECK.due("judge of another FILE", gate.judge(), 0);
        told(gate, "another", 5, 0, 0, 0, 0, 0, 0, 0, 0x21);
        CHECK.due("method of another", gate.method(0, 0), CodeGate.BAD);
        CHECK.due("rule of another", gate.rule(), 0);
    }
}
