import java.util.Arrays;

/** Promises 6 to 10, sentence by sentence: what judge() answers, and what is told of the FILE that was judged latest. */
public final class ToldTest {
    private static final int RETURN = 177;
    private static final int[] FAR = {Integer.MIN_VALUE, Integer.MIN_VALUE + 1, Integer.MAX_VALUE - 1, Integer.MAX_VALUE};
    private static final Check CHECK = new Check();

    public static void main(String[] args) {
        judge();
        rule();
        ruleOfLatest();
        told();
        toldOfNone();
        toldOfMost();
        toldBad();
        method();
        methodOfMost();
        methodAbstract();
        methodBad();
        entry();
        entryOfMost();
        entryBad();
        ifItPassed();
        latestJudge();
        CHECK.done();
    }

    private static void told(CodeGate gate, String what, int... due) {
        for (int i = 0; i < due.length; i++) {
            CHECK.due(what + ": told(" + i + ")", gate.told(i), due[i]);
        }
    }

    private static void method(CodeGate gate, int k, int... due) {
        for (int i = 0; i < due.length; i++) {
            CHECK.due("method(" + k + ", " + i + ")", gate.method(k, i), due[i]);
        }
    }

    private static CodeGate judged(byte[] file) {
        CodeGate gate = Check.fed(file);
        CHECK.due("judge()", gate.judge(), 0);
        return gate;
    }

    /** A file that passes and has so many bytes. */
    private static Maker withTexts(int length) {
        Maker m = new Maker(52).open(0x21).u2(0, 0, 0);
        m.otherText("x".repeat(length - m.file().length - 3));
        return m;
    }

    private static void judge() {
        CHECK.says("0: the FILE passes; else 1 and the PLACE.");
        CHECK.due("of the empty FILE", new CodeGate().judge(), 1);
        CHECK.due("at the first byte", Check.fed(new byte[4]).judge(), 1);
        for (byte[] file : Samples.all()) {
            CHECK.due("of a sample", Check.fed(file).judge(), 0);
        }
        CHECK.due("of a full FILE", Check.fed(withTexts(4000).file()).judge(), 0);
        CHECK.due("at the last byte of a full FILE", Check.fed(Arrays.copyOf(withTexts(3999).file(), 4000)).judge(), 4000);
        Maker m = new Maker(52);
        m.otherText("x".repeat(4000 - 13));
        CHECK.due("at the end of a full FILE", Check.fed(m.file()).judge(), 4001);
        CodeGate gate = Check.fed(Samples.small());
        for (int i = 0; i < 5; i++) {
            CHECK.due("again and again", gate.judge(), 0);
        }
    }

    private static void rule() {
        CHECK.says("The RULE that was broken at the latest judge(); 0: none, or there was none.");
        CodeGate gate = new CodeGate();
        CHECK.due("there was no judge()", gate.rule(), 0);
        gate.feed(0, 0, 0, 0, 4);
        CHECK.due("there was no judge() still", gate.rule(), 0);
        gate.judge();
        CHECK.due("broken", gate.rule(), 2);
        CHECK.due("asked again", gate.rule(), 2);
        gate.cut(4);
        Check.feedAll(gate, Samples.small());
        CHECK.due("the FILE is another one, and was not judged", gate.rule(), 2);
        gate.judge();
        CHECK.due("none", gate.rule(), 0);
    }

    private static void ruleOfLatest() {
        CHECK.says("at the latest judge()");
        byte[] small = Samples.small();
        CodeGate gate = Check.fed(small);
        int[][] turns = {{0, 2}, {4, 3}, {7, 3}, {8, 4}, {10, 6}, {13, 5}};
        for (int[] turn : turns) {
            gate.turn(turn[0], 0x80);
            CHECK.due("byte " + turn[0] + " turned: judge()", gate.judge() > 0 ? 1 : 0, 1);
            CHECK.due("byte " + turn[0] + " turned: rule()", gate.rule(), turn[1]);
            gate.turn(turn[0], 0x80);
            CHECK.due("byte " + turn[0] + " turned back: rule()", gate.rule(), turn[1]);
            CHECK.due("byte " + turn[0] + " turned back: judge()", gate.judge(), 0);
            CHECK.due("byte " + turn[0] + " turned back and judged: rule()", gate.rule(), 0);
        }
    }

    private static void told() {
        CHECK.says("numbers of the POOL (what = 0), interfaces (1), fields (2), methods (3), INSTRUCTIONS of all CODE (4), bytes of all "
            + "CODE (5), places that INSTRUCTIONS go to, each as often as told (6), rows of handlers (7), its FLAGS (8).");
        byte[] file = Samples.rich(52);
        int numbers = (file[8] & 255) << 8 | file[9] & 255;
        told(judged(file), "rich", numbers, 2, 4, 5, 3 + 30 + 9 + 1, 5 + 71 + 52 + 1, 3 + 4 + 2, 2, 0x421);
        file = Samples.face();
        told(judged(file), "face", file[9], 1, 1, 3, 4 + 4, 4 + 6, 0, 0, 0x601);
        for (int flags : new int[] {0, 1, 0x10, 0x20, 0x31, 0x400, 0x421, 0x600, 0x601}) {
            CHECK.due("FLAGS", judged(new Maker(52).open(flags).u2(0, 0, 0).file()).told(8), flags);
        }
        Maker m = new Maker(52).open(0x21).u2(0, 1).member("m", 8, "m", "()V").u2(1);
        m.code("c", 0, 0, 153, 0, 0, 153, 0, 0, 167, 255, 250);
        told(judged(m.u2(0).file()), "one place thrice", 8, 0, 0, 1, 3, 9, 3, 0, 0x21);
    }

    private static void toldOfNone() {
        CHECK.says("told of what is not there is 0");
        told(judged(Samples.small()), "small", 5, 0, 0, 0, 0, 0, 0, 0, 0x21);
        Maker m = new Maker(52).open(0x400).u2(0, 1).member("m", 0x400, "m", "()V").u2(0, 0);
        told(judged(m.file()), "one ABSTRACT method", 7, 0, 0, 1, 0, 0, 0, 0, 0x400);
    }

    private static void toldOfMost() {
        CHECK.says("told of as much as may be there");
        Maker m = new Maker(52);
        for (int i = 5; i < 300; i++) {
            m.number(i);
        }
        told(judged(m.open(0x21).u2(0, 0, 0).file()), "300 numbers", 300, 0, 0, 0, 0, 0, 0, 0, 0x21);
        m = new Maker(52);
        m.u2(0x21).u2(m.classOf("A")).u2(m.classOf("java/lang/Object")).u2(20);
        for (int i = 0; i < 20; i++) {
            m.u2(m.classOf("I" + i));
        }
        told(judged(m.u2(0, 0, 0).file()), "20 interfaces", 45, 20, 0, 0, 0, 0, 0, 0, 0x21);
        m = new Maker(52).open(0x21).u2(60);
        for (int i = 0; i < 60; i++) {
            m.member("f", 0, "f" + i, "I").u2(0);
        }
        told(judged(m.u2(0, 0).file()), "60 fields", 66, 0, 60, 0, 0, 0, 0, 0, 0x21);
        m = new Maker(52).open(0x21).u2(0, 60);
        for (int i = 0; i < 60; i++) {
            m.member("m", 8, "m" + i, "()V").u2(1).code("c", 0, 0, 167, 0, 0);
        }
        told(judged(m.u2(0).file()), "60 methods", 67, 0, 0, 60, 60, 180, 60, 0, 0x21);
        int[] code = new int[1700];
        for (int i = 0; i < 1698; i += 3) {
            code[i] = 153;
            code[i + 2] = 3;
        }
        code[1699] = RETURN;
        m = new Maker(52).open(0x21).u2(0, 2).member("m", 8, "a", "()V").u2(1).code("c", 0, 0, code);
        m.member("m", 8, "b", "()V").u2(1).code("c", 0, 0, code);
        told(judged(m.u2(0).file()), "much CODE", 9, 0, 0, 2, 2 * 568, 3400, 2 * 566, 0, 0x21);
        m = new Maker(52).open(0x21).u2(0, 4);
        for (int i = 0; i < 4; i++) {
            m.member("m", 8, "m" + i, "()V").u2(1).attribute("c", "Code", 13 + 240).u2(0, 0).u4(1).u1(RETURN).u2(30);
            for (int k = 0; k < 30; k++) {
                m.u2(0, 1, 0, 0);
            }
            m.u2(0);
        }
        told(judged(m.u2(0).file()), "120 rows", 11, 0, 0, 4, 4, 4, 0, 120, 0x21);
    }

    private static void toldBad() {
        CHECK.says("BAD: another number.");
        CodeGate gate = judged(Samples.rich(52));
        for (int wrong : new int[] {-1, -2, 9, 10, 255, 256}) {
            CHECK.due("told(" + wrong + ")", gate.told(wrong), CodeGate.BAD);
        }
        for (int wrong : FAR) {
            CHECK.due("told(" + wrong + ")", gate.told(wrong), CodeGate.BAD);
        }
        CHECK.due("told(8) behind these", gate.told(8), 0x421);
    }

    private static void method() {
        CHECK.says("Likewise of method k: its FLAGS (what = 0), SLOTS of its arguments (1), the STACK (2), the LOCALS (3), INSTRUCTIONS (4), "
            + "classes it throws by \"Exceptions\" (5).");
        CodeGate gate = judged(Samples.rich(52));
        method(gate, 0, 1, 0, 1, 1, 3, 0);
        method(gate, 1, 0x401, 4, 0, 0, 0, 2);
        method(gate, 2, 0x11, 3, 12, 6, 30, 1);
        method(gate, 3, 0x0A, 1, 1, 1, 9, 0);
        method(gate, 4, 8, 0, 0, 0, 1, 0);
    }

    private static void methodOfMost() {
        CHECK.says("of method k (as much as may be there)");
        Maker m = new Maker(52).open(0x21).u2(0, 60);
        for (int i = 0; i < 60; i++) {
            m.member("m", 8, "m" + i, "()V").u2(1).code("c", i, 2 * i, 0, 0, RETURN);
        }
        CodeGate gate = judged(m.u2(0).file());
        for (int i = 0; i < 60; i++) {
            method(gate, i, 8, 0, i, 2 * i, 3, 0);
        }
        CHECK.due("method(60, 0)", gate.method(60, 0), CodeGate.BAD);
        for (String type : new String[] {"(" + "I".repeat(250) + ")V", "(" + "J".repeat(125) + ")V", "(" + "[J".repeat(250) + ")V"}) {
            int[] code = new int[2000];
            code[1999] = RETURN;
            m = new Maker(52).open(0x21).u2(0, 1).member("m", 0x11, "m", type).u2(1).code("c", 255, 255, code).u2(0);
            method(judged(m.file()), 0, 0x11, 250, 255, 255, 2000, 0);
        }
        m = new Maker(52).open(0x21).u2(0, 1).member("m", 0, "m", "()J").u2(1).code("c", 0, 1, RETURN).u2(0);
        method(judged(m.file()), 0, 0, 0, 0, 1, 1, 0);
    }

    private static void methodAbstract() {
        CHECK.says("0 to 4 of an ABSTRACT one's are 0 from 2 on");
        Maker m = new Maker(52).open(0x421).u2(0, 3).member("a", 9, "a", "(JI)V").u2(1).code("c", 7, 8, 0, 0, RETURN);
        m.member("b", 0x404, "b", "(JI)V").u2(0).member("d", 0x401, "d", "()V").u2(1).attribute("e", "Exceptions", 8);
        m.u2(3).u2(m.classOf("X")).u2(m.classOf("X")).u2(m.classOf("X")).u2(0);
        CodeGate gate = judged(m.file());
        method(gate, 0, 9, 3, 7, 8, 3, 0);
        method(gate, 1, 0x404, 3, 0, 0, 0, 0);
        method(gate, 2, 0x401, 0, 0, 0, 0, 3);
    }

    private static void methodBad() {
        CHECK.says("BAD (method): there is no method k, or another number");
        CodeGate gate = judged(Samples.rich(52));
        for (int wrong : new int[] {-1, -2, 5, 6, 59, 60, 61, 256}) {
            for (int what = 0; what < 6; what++) {
                CHECK.due("method(" + wrong + ", " + what + ")", gate.method(wrong, what), CodeGate.BAD);
            }
        }
        for (int k = 0; k < 5; k++) {
            for (int wrong : new int[] {-1, -2, 6, 7, 30, 256}) {
                CHECK.due("method(" + k + ", " + wrong + ")", gate.method(k, wrong), CodeGate.BAD);
            }
        }
        for (int wrong : FAR) {
            CHECK.due("method(0, " + wrong + ")", gate.method(0, wrong), CodeGate.BAD);
            CHECK.due("method(" + wrong + ", 0)", gate.method(wrong, 0), CodeGate.BAD);
            CHECK.due("method(" + wrong + ", " + wrong + ")", gate.method(wrong, wrong), CodeGate.BAD);
        }
        gate = judged(Samples.small());
        CHECK.due("method(0, 0) of no method", gate.method(0, 0), CodeGate.BAD);
    }

    private static void entry() {
        CHECK.says("Likewise of entry k of the POOL: its KIND, 0 of a number that is no entry.");
        Maker m = new Maker(52);
        int[] numbers = {m.text("a"), m.number(1), m.classOf("B"), m.string("a"), m.field("B", "f", "I"),
            m.method("B", "m", "()V"), m.outer("B", "m", "()V"), m.named("f", "I")};
        int[] kinds = {1, 3, 7, 8, 9, 10, 11, 12};
        int big = m.longNumber(3);
        CodeGate gate = judged(m.open(0x21).u2(0, 0, 0).file());
        for (int i = 0; i < kinds.length; i++) {
            CHECK.due("entry(" + numbers[i] + ")", gate.entry(numbers[i]), kinds[i]);
        }
        CHECK.due("entry of a LONG", gate.entry(big), 5);
        CHECK.due("the number behind it", gate.entry(big + 1), 0);
        CHECK.due("the first one", gate.entry(1), 1);
        CHECK.due("the last one", gate.entry(gate.told(0) - 1), 7);
    }

    private static void entryOfMost() {
        CHECK.says("of entry k of the POOL (300 numbers)");
        Maker m = new Maker(52);
        m.classOf("A");
        m.classOf("java/lang/Object");
        for (int i = 0; i < 147; i++) {
            m.longNumber(i);
        }
        m.number(1);
        CodeGate gate = judged(m.open(0x21).u2(0, 0, 0).file());
        for (int k = 5; k < 299; k++) {
            CHECK.due("entry(" + k + ")", gate.entry(k), k % 2 == 1 ? 5 : 0);
        }
        CHECK.due("entry(299)", gate.entry(299), 3);
        CHECK.due("entry(300)", gate.entry(300), CodeGate.BAD);
        m = new Maker(52);
        m.classOf("A");
        m.classOf("java/lang/Object");
        m.number(1);
        for (int i = 0; i < 147; i++) {
            m.longNumber(i);
        }
        gate = judged(m.open(0x21).u2(0, 0, 0).file());
        CHECK.due("entry(298), a LONG", gate.entry(298), 5);
        CHECK.due("entry(299), no entry", gate.entry(299), 0);
        CHECK.due("entry(300)", gate.entry(300), CodeGate.BAD);
    }

    private static void entryBad() {
        CHECK.says("BAD (entry): there is no number k");
        CodeGate gate = judged(Samples.rich(52));
        int n = gate.told(0);
        for (int wrong : new int[] {0, -1, -2, n, n + 1, 299, 300, 301, 65536}) {
            CHECK.due("entry(" + wrong + ")", gate.entry(wrong), CodeGate.BAD);
        }
        for (int wrong : FAR) {
            CHECK.due("entry(" + wrong + ")", gate.entry(wrong), CodeGate.BAD);
        }
        // What a larger POOL ahead had is not told of a smaller one.
        gate.cut(gate.beginnings());
        Check.feedAll(gate, Samples.small());
        gate.judge();
        CHECK.due("entry(4) of a smaller one", gate.entry(4), 7);
        CHECK.due("entry(5) of a smaller one", gate.entry(5), CodeGate.BAD);
    }

    private static void ifItPassed() {
        CHECK.says("Of the FILE that was judged latest, if it passed (else BAD)");
        CodeGate gate = Check.fed(Samples.rich(52));
        for (int round = 0; round < 2; round++) {
            for (int what = 0; what < 9; what++) {
                CHECK.due("told(" + what + ")", gate.told(what), CodeGate.BAD);
                CHECK.due("method(0, " + what + ")", gate.method(0, what), CodeGate.BAD);
                CHECK.due("entry(" + what + ")", gate.entry(what), CodeGate.BAD);
            }
            // First there was no judge(), then one that the last byte made fail.
            gate.cut(1);
            CHECK.due("judge()", gate.judge() > 0 ? 1 : 0, 1);
        }
    }

    /** Neither a changed FILE nor a trial changes what the latest judge() found. */
    private static void latestJudge() {
        CHECK.says("Of the FILE that was judged latest");
        CodeGate gate = judged(Samples.rich(52));
        int kind = gate.entry(1);
        gate.turn(0, 1);
        gate.beginnings();
        gate.guarded(1);
        gate.feed(1, 2, 3, 4, 16);
        gate.cut(20);
        told(gate, "turned", gate.told(0), 2, 4, 5, 43, 129, 9, 2, 0x421);
        method(gate, 2, 0x11, 3, 12, 6, 30, 1);
        CHECK.due("entry of a turned FILE", gate.entry(1), kind);
        CHECK.due("rule of a turned FILE", gate.rule(), 0);
        CHECK.due("judge of a turned FILE", gate.judge(), 1);
        CHECK.due("told of one that does not pass", gate.told(3), CodeGate.BAD);
        CHECK.due("method of one that does not pass", gate.method(0, 0), CodeGate.BAD);
        CHECK.due("entry of one that does not pass", gate.entry(1), CodeGate.BAD);
        gate = Check.fed(Samples.rich(52));
        gate.turn(0, 1);
        gate.judge();
        gate.turn(0, 1);
        CHECK.due("guarded of one that was not judged", gate.guarded(0x20) > 0 ? 1 : 0, 1);
        CHECK.due("the rule stays", gate.rule(), 2);
        CHECK.due("told stays", gate.told(3), CodeGate.BAD);
        gate.cut(gate.beginnings());
        Check.feedAll(gate, Samples.small());
        CHECK.due("judge of another FILE", gate.judge(), 0);
        told(gate, "another", 5, 0, 0, 0, 0, 0, 0, 0, 0x21);
        CHECK.due("method of another", gate.method(0, 0), CodeGate.BAD);
        CHECK.due("rule of another", gate.rule(), 0);
    }
}
