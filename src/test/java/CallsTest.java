import com.sun.management.ThreadMXBean;
import java.lang.management.ManagementFactory;
import java.util.ArrayList;
import java.util.Arrays;
import java.util.List;
import java.util.Random;

/** "What it is": 512 calls on one object, all of them with the rows that were made with it. */
public final class CallsTest {
    private static final int CALLS = 512;
    private static final int[] EDGES = {Integer.MIN_VALUE, -4001, -1, 0, 1, 2, 8, 9, 15, 16, 17, 20, 60, 250, 255, 256, 299, 300, 301, 2000,
        3999, 4000, 4001, 65535, 65536, Integer.MAX_VALUE};
    private static final Check CHECK = new Check();

    /** A FILE as a plain row, with what the latest judge() found: the answers that are due, call by call. */
    private static final class Plain {
        byte[] row = new byte[0];
        SecondReading judged;

        int feed(int a, int b, int c, int d, int n) {
            if (n < 1 || n > 16) {
                return CodeGate.BAD;
            }
            if (row.length + n > 4000) {
                return CodeGate.FULL;
            }
            int[] words = {a, b, c, d};
            byte[] longer = Arrays.copyOf(row, row.length + n);
            for (int k = 0; k < n; k++) {
                longer[row.length + k] = (byte) (words[k / 4] >> (24 - 8 * (k % 4)));
            }
            row = longer;
            return row.length;
        }

        int cut(int n) {
            if (n < 0 || n > row.length) {
                return CodeGate.BAD;
            }
            row = Arrays.copyOf(row, row.length - n);
            return row.length;
        }

        int turn(int i, int b) {
            if (i < 0 || i >= row.length) {
                return CodeGate.BAD;
            }
            row[i] ^= (byte) b;
            return row[i] & 255;
        }

        int judge() {
            judged = new SecondReading(row);
            return judged.judged();
        }

        boolean passed() {
            return judged != null && judged.rule == 0;
        }

        int told(int what) {
            return passed() && what >= 0 && what < 9 ? judged.told[what] : CodeGate.BAD;
        }

        int method(int k, int what) {
            boolean there = passed() && k >= 0 && k < judged.methods.size() && what >= 0 && what < 6;
            return there ? judged.methods.get(k)[what] : CodeGate.BAD;
        }

        int entry(int k) {
            return passed() && k > 0 && k < judged.told[0] ? judged.kind(k) : CodeGate.BAD;
        }

        int guarded(int mask) {
            if (mask < 1 || mask > 255 || new SecondReading(row).rule != 0) {
                return CodeGate.BAD;
            }
            int many = 0;
            for (int i = 0; i < row.length; i++) {
                row[i] ^= (byte) mask;
                many += new SecondReading(row).rule == 0 ? 0 : 1;
                row[i] ^= (byte) mask;
            }
            return many;
        }

        int beginnings() {
            return new SecondReading(row).rule == 0 ? row.length : CodeGate.BAD;
        }
    }

    public static void main(String[] args) {
        anyCalls();
        oneAfterTheOther();
        full();
        edges();
        noObjects();
        CHECK.done();
    }

    private static int any(Random chance) {
        switch (chance.nextInt(4)) {
            case 0:
                return EDGES[chance.nextInt(EDGES.length)];
            case 1:
                return chance.nextInt();
            default:
                return chance.nextInt(12);
        }
    }

    private static void anyCall(CodeGate gate, Plain plain, Random chance) {
        int a = any(chance);
        int b = any(chance);
        switch (chance.nextInt(12)) {
            case 0:
                int n = chance.nextInt(20) - 1;
                CHECK.due("feed", gate.feed(a, b, ~a, ~b, n), plain.feed(a, b, ~a, ~b, n));
                break;
            case 1:
                CHECK.due("cut(" + a + ")", gate.cut(a), plain.cut(a));
                break;
            case 2:
            case 3:
                int i = plain.row.length > 0 && chance.nextBoolean() ? chance.nextInt(plain.row.length) : a;
                CHECK.due("turn(" + i + ", " + b + ")", gate.turn(i, b), plain.turn(i, b));
                if (chance.nextInt(4) > 0) {
                    CHECK.due("turn back", gate.turn(i, b), plain.turn(i, b));
                }
                break;
            case 4:
                CHECK.due("byteAt(" + a + ")", gate.byteAt(a), a >= 0 && a < plain.row.length ? plain.row[a] & 255 : CodeGate.BAD);
                break;
            case 5:
                CHECK.due("judge()", gate.judge(), plain.judge());
                break;
            case 6:
                CHECK.due("rule()", gate.rule(), plain.judged == null ? 0 : plain.judged.rule);
                break;
            case 7:
                CHECK.due("told(" + a + ")", gate.told(a), plain.told(a));
                break;
            case 8:
                CHECK.due("method(" + a + ", " + b + ")", gate.method(a, b), plain.method(a, b));
                break;
            case 9:
                CHECK.due("entry(" + a + ")", gate.entry(a), plain.entry(a));
                break;
            case 10:
                CHECK.due("guarded(" + a + ")", gate.guarded(a), plain.guarded(a));
                break;
            default:
                CHECK.due("beginnings()", gate.beginnings(), plain.beginnings());
        }
    }

    private static void anyCalls() {
        CHECK.says("An object is used for at most 512 calls after it has been made");
        Random chance = new Random(512);
        List<byte[]> samples = Samples.all();
        for (int run = 0; run < 60; run++) {
            CodeGate gate = new CodeGate();
            Plain plain = new Plain();
            byte[] file = samples.get(run % samples.size());
            Check.feedAll(gate, file);
            plain.row = file.clone();
            int calls = (file.length + 15) / 16;
            while (calls < CALLS) {
                anyCall(gate, plain, chance);
                calls++;
            }
        }
    }

    /** One object goes along many files: it answers as a new one does, whatever it had ahead of them. */
    private static void oneAfterTheOther() {
        CHECK.says("The FILE that was judged latest (one object, one file after the other)");
        List<byte[]> files = new ArrayList<>();
        Random chance = new Random(7);
        while (files.size() < 300) {
            byte[] file = new Chance(chance).file();
            if (file.length < 1600) {
                files.add(file);
            }
        }
        CodeGate gate = new CodeGate();
        int calls = 0;
        int length = 0;
        for (byte[] file : files) {
            int more = 1 + (file.length + 15) / 16 + 2;
            if (calls + more + 9 > CALLS) {
                gate = new CodeGate();
                calls = 0;
                length = 0;
            }
            gate.cut(length);
            Check.feedAll(gate, file);
            length = file.length;
            calls += more + 9;
            CodeGate other = Check.fed(file);
            CHECK.due("judge()", gate.judge(), other.judge());
            CHECK.due("rule()", gate.rule(), other.rule());
            for (int what = 0; what < 9; what++) {
                CHECK.due("told(" + what + ")", gate.told(what), other.told(what));
            }
        }
    }

    /** 250 calls make a full FILE; the other 262 are the dearest ones. */
    private static void full() {
        CHECK.says("at most 512 calls (on a full FILE)");
        CodeGate gate = new CodeGate();
        Maker m = new Maker(52).open(0x21).u2(0, 0, 0);
        m.otherText("x".repeat(4000 - m.file().length - 3));
        Check.feedAll(gate, m.file());
        int first = gate.guarded(1);
        for (int i = 0; i < 60; i++) {
            CHECK.due("judge()", gate.judge(), 0);
            CHECK.due("beginnings()", gate.beginnings(), 4000);
            CHECK.due("guarded(1)", i % 10 == 0 ? gate.guarded(1) : first, first);
            CHECK.due("feed()", gate.feed(0, 0, 0, 0, 16), CodeGate.FULL);
        }
    }

    private static void edges() {
        CHECK.says("No call may ever throw or fail to end, for any arguments in any state");
        for (byte[] file : new byte[][] {new byte[0], Samples.small(), Arrays.copyOf(Samples.small(), 30), new byte[4000]}) {
            for (int a : EDGES) {
                CodeGate gate = Check.fed(file);
                Plain plain = new Plain();
                plain.row = file.clone();
                CHECK.due("judge()", gate.judge(), plain.judge());
                for (int b : new int[] {Integer.MIN_VALUE, -1, 0, 1, 255, 256, Integer.MAX_VALUE}) {
                    CHECK.due("turn(" + a + ", " + b + ")", gate.turn(a, b), plain.turn(a, b));
                    CHECK.due("turn back", gate.turn(a, b), plain.turn(a, b));
                    CHECK.due("method(" + a + ", " + b + ")", gate.method(a, b), plain.method(a, b));
                    CHECK.due("method(" + b + ", " + a + ")", gate.method(b, a), plain.method(b, a));
                }
                CHECK.due("told(" + a + ")", gate.told(a), plain.told(a));
                CHECK.due("entry(" + a + ")", gate.entry(a), plain.entry(a));
                CHECK.due("guarded(" + a + ")", gate.guarded(a), plain.guarded(a));
                CHECK.due("feed of " + a, gate.feed(a, a, a, a, a), plain.feed(a, a, a, a, a));
                CHECK.due("cut(" + a + ")", gate.cut(a), plain.cut(a));
            }
        }
    }

    /** All calls of a run live in one room, so that no call makes anything. */
    private static void noObjects() {
        CHECK.says("make rows in constructors and use them again");
        ThreadMXBean threads = (ThreadMXBean) ManagementFactory.getThreadMXBean();
        long thread = Thread.currentThread().getId();
        CodeGate gate = Check.fed(Samples.rich(52));
        long least = Long.MAX_VALUE;
        for (int round = 0; round < 4; round++) {
            long ahead = threads.getThreadAllocatedBytes(thread);
            for (int i = 0; i < 10; i++) {
                gate.turn(0, i & 1);
                gate.judge();
                gate.rule();
                gate.told(i);
                gate.method(i, i);
                gate.entry(i);
                gate.beginnings();
                gate.cut(1);
                gate.feed(0, 0, 0, 0, 1);
            }
            gate.guarded(0xFF);
            least = Math.min(least, threads.getThreadAllocatedBytes(thread) - ahead);
        }
        // The asking itself makes a little; one row of any call would be far more.
        CHECK.due("bytes that 91 calls make", least < 1000 ? 0 : least, 0);
    }
}
