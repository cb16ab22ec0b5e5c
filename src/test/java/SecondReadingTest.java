import java.io.ByteArrayOutputStream;
import java.util.Arrays;
import java.util.List;
import java.util.Random;

/** All promises on many files that came about by chance (always the same ones). */
public final class SecondReadingTest {
    private static final int FILES = 60000;
    private static final Check CHECK = new Check();
    private static final int[] RULES = new int[30];

    public static void main(String[] args) {
        List<byte[]> samples = Samples.all();
        for (byte[] file : List.of(Samples.rich(52), Samples.plain(), Samples.face())) {
            everyByte(file);
        }
        Random chance = new Random(20261115);
        for (int i = 0; i < FILES; i++) {
            byte[] file = samples.get(chance.nextInt(samples.size()));
            int times = 1 + chance.nextInt(3);
            for (int k = 0; k < times; k++) {
                file = changed(file, chance);
            }
            compare(file);
        }
        for (int i = 0; i < FILES; i++) {
            compare(new Chance(chance).file());
        }
        for (int rule = 0; rule < RULES.length; rule++) {
            CHECK.due("RULE " + rule + " was met", RULES[rule] > 0 ? 1 : 0, 1);
        }
        System.out.println("how often each RULE was met: " + Arrays.toString(RULES));
        CHECK.done();
    }

    private static void everyByte(byte[] file) {
        for (int i = 0; i < file.length; i++) {
            for (int value = 0; value < 256; value++) {
                byte[] other = file.clone();
                other[i] = (byte) value;
                compare(other);
            }
        }
    }

    private static byte[] changed(byte[] file, Random chance) {
        if (file.length < 4) {
            return file;
        }
        byte[] other = file.clone();
        int i = chance.nextInt(file.length - 1);
        switch (chance.nextInt(7)) {
            case 0:
                other[i] ^= (byte) (1 << chance.nextInt(8));
                return other;
            case 1:
                other[i] += (byte) (chance.nextInt(5) - 2);
                return other;
            case 2:
                other[i] = (byte) chance.nextInt(256);
                return other;
            case 3:
                int from = chance.nextInt(file.length - 1);
                other[i] = file[from];
                other[i + 1] = file[from + 1];
                return other;
            case 4:
                return Arrays.copyOf(file, file.length - 1 - chance.nextInt(3));
            case 5:
                return joined(Arrays.copyOf(file, i), Arrays.copyOfRange(file, i + 1, file.length));
            default:
                return joined(Arrays.copyOf(file, i), Arrays.copyOfRange(file, i - chance.nextInt(Math.min(i + 1, 4)), file.length));
        }
    }

    private static byte[] joined(byte[] one, byte[] other) {
        ByteArrayOutputStream out = new ByteArrayOutputStream();
        out.writeBytes(one);
        out.writeBytes(other);
        return out.toByteArray();
    }

    private static void compare(byte[] file) {
        if (file.length > 4000) {
            return;
        }
        SecondReading second = new SecondReading(file);
        CodeGate gate = Check.fed(file);
        RULES[second.rule]++;
        int answer = gate.judge();
        if (answer != second.judged() || gate.rule() != second.rule) {
            System.out.println("the FILE: " + hex(file));
        }
        CHECK.due("judge()", answer, second.judged());
        CHECK.due("rule()", gate.rule(), second.rule);
        if (second.rule == 0) {
            compareTold(gate, second, file.length);
        } else {
            CHECK.due("told(0)", gate.told(0), CodeGate.BAD);
        }
    }

    private static void compareTold(CodeGate gate, SecondReading second, int length) {
        for (int what = 0; what < 9; what++) {
            CHECK.due("told(" + what + ")", gate.told(what), second.told[what]);
        }
        for (int k = 0; k < second.methods.size(); k++) {
            for (int what = 0; what < 6; what++) {
                CHECK.due("method(" + k + ", " + what + ")", gate.method(k, what), second.methods.get(k)[what]);
            }
        }
        CHECK.due("method behind all", gate.method(second.methods.size(), 0), CodeGate.BAD);
        for (int k = 1; k < second.told[0]; k++) {
            CHECK.due("entry(" + k + ")", gate.entry(k), second.kind(k));
        }
        CHECK.due("entry behind all", gate.entry(second.told[0]), CodeGate.BAD);
        CHECK.due("beginnings()", gate.beginnings(), length);
    }

    private static String hex(byte[] file) {
        StringBuilder out = new StringBuilder();
        for (byte b : file) {
            out.append(String.format("%02X", b));
        }
        return out.toString();
    }
}
