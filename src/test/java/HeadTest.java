import java.util.Arrays;

/** THE FILE, HEAD and END, sentence by sentence: RULES 1, 2, 3 and 29. */
public final class HeadTest {
    private static final Check CHECK = new Check();

    public static void main(String[] args) {
        longest();
        highestFirst();
        withoutSign();
        beyondTheEnd();
        placeOfTheNumber();
        magic();
        minor();
        version();
        end();
        CHECK.done();
    }

    private static byte[] with(byte[] file, int at, int... values) {
        byte[] other = file.clone();
        for (int i = 0; i < values.length; i++) {
            other[at + i] = (byte) values[i];
        }
        return other;
    }

    /** A file that passes and has so many bytes. */
    private static byte[] ofLength(int length) {
        Maker m = new Maker(52).open(0x21).u2(0, 0, 0);
        m.otherText("x".repeat(length - m.file().length - 3));
        return m.file();
    }

    private static void longest() {
        CHECK.says("THE FILE has 4000 bytes at most");
        for (int length : new int[] {3999, 4000}) {
            CodeGate gate = Check.fed(ofLength(length));
            CHECK.due("judge() of " + length, gate.judge(), 0);
            CHECK.due("beginnings() of " + length, gate.beginnings(), length);
        }
        CodeGate gate = Check.fed(ofLength(4000));
        CHECK.due("feed of one byte more", gate.feed(0, 0, 0, 0, 1), CodeGate.FULL);
        CHECK.due("judge() behind it", gate.judge(), 0);
        gate = Check.fed(ofLength(3999));
        CHECK.due("feed of two bytes more", gate.feed(0, 0, 0, 0, 2), CodeGate.FULL);
        CHECK.due("judge() behind it", gate.judge(), 0);
        CHECK.due("feed of one byte more", gate.feed(0, 0, 0, 0, 1), 4000);
        CHECK.due("judge() behind it", gate.judge(), 1 + 3999);
        CHECK.due("rule() behind it", gate.rule(), 29);
    }

    private static void highestFirst() {
        CHECK.says("numbers of more bytes have the highest first");
        byte[] file = Samples.small();
        CHECK.passes("u2 of 0, 52", with(file, 6, 0, 52));
        CHECK.breaks("u2 of 52, 0", with(file, 6, 52, 0), 3, 6);
        CHECK.breaks("u4 turned round", with(file, 0, 0xBE, 0xBA, 0xFE, 0xCA), 2, 0);
        CHECK.breaks("u4 of u2 turned round", with(file, 0, 0xBA, 0xBE, 0xCA, 0xFE), 2, 0);
        Maker m = new Maker(52);
        for (int i = 0; i < 251; i++) {
            m.number(i);
        }
        CodeGate gate = Check.fed(m.open(0x21).u2(0, 0, 0).file());
        CHECK.due("judge() with n of 1, 0", gate.judge(), 0);
        CHECK.due("told(0) with n of 1, 0", gate.told(0), 256);
    }

    private static void withoutSign() {
        CHECK.says("u1, u2, u4: so many bytes without sign");
        byte[] file = Samples.small();
        CHECK.breaks("u2 FFFF as n", with(file, 8, 255, 255), 4, 8);
        CHECK.breaks("u2 8000 as n", with(file, 8, 128, 0), 4, 8);
        CHECK.breaks("u1 FF as a KIND", with(file, 10, 255), 6, 10);
        CHECK.breaks("u1 87 as a KIND", with(file, 10, 0x87), 6, 10);
        CHECK.breaks("u2 FFFF as a TEXT's bytes", with(file, 11, 255, 255), 5, 15);
        Maker m = new Maker(52).open(0x21).u2(0, 0, 1).attribute("s", "SourceFile", 0x80000002);
        m.u2(m.text("A.java"));
        CHECK.breaks("u4 80000002 as a length", m.file(), 18, m.place("s.length"));
        m = new Maker(52).open(0x21).u2(0, 1).member("m", 8, "m", "()V").u2(1).attribute("c", "Code", 13);
        m.u2(0, 0).mark("size").u4(0x80000001).u1(177).u2(0, 0, 0);
        CHECK.breaks("u4 80000001 as a number of bytes", m.file(), 15, m.place("size"));
        for (String mark : new String[] {"self", "above"}) {
            m = new Maker(52).open(0x21).u2(0, 0, 0);
            int at = m.place(mark);
            CHECK.breaks("u2 8000 and the number", with(m.file(), at, 128 | m.file()[at]), 8, at);
        }
    }

    private static void beyondTheEnd() {
        CHECK.says("What would be read beyond the end: RULE 1, PLACE is the length.");
        for (byte[] file : Samples.all()) {
            for (int i = 0; i < file.length; i++) {
                CHECK.breaks("the first " + i, Arrays.copyOf(file, i), 1, i);
            }
        }
        for (int i = 1; i < 4; i++) {
            CHECK.breaks("a wrong number that is not all there, " + i, new byte[i], 1, i);
        }
        CHECK.breaks("half of a wrong minor", Arrays.copyOf(with(Samples.small(), 4, 9), 5), 1, 5);
        CHECK.breaks("half of a wrong VERSION", Arrays.copyOf(with(Samples.small(), 6, 9), 7), 1, 7);
        CHECK.breaks("half of a wrong n", Arrays.copyOf(with(Samples.small(), 8, 9), 9), 1, 9);
    }

    private static void placeOfTheNumber() {
        CHECK.says("Each PLACE is that of the number (or byte) that is looked at, if nothing else is told.");
        byte[] file = Samples.small();
        CHECK.breaks("at the first byte of a u4, if its last is wrong", with(file, 3, 0), 2, 0);
        CHECK.breaks("at the first byte of a u2, if its last is wrong", with(file, 7, 0), 3, 6);
        CHECK.breaks("at a byte", with(file, 13, 0), 5, 13);
    }

    private static void magic() {
        CHECK.says("HEAD: u4 0xCAFEBABE (RULE 2).");
        byte[] file = Samples.small();
        CHECK.passes("CAFEBABE", file);
        for (int bit = 0; bit < 32; bit++) {
            byte[] other = file.clone();
            other[bit / 8] ^= (byte) (1 << bit % 8);
            CHECK.breaks("bit " + bit, other, 2, 0);
        }
        CHECK.breaks("00000000", with(file, 0, 0, 0, 0, 0), 2, 0);
        CHECK.breaks("FFFFFFFF", with(file, 0, 255, 255, 255, 255), 2, 0);
    }

    private static void minor() {
        CHECK.says("u2 0");
        for (int minor : new int[] {1, 2, 45, 128, 255, 256, 0x8000, 0xFFFF}) {
            CHECK.breaks("minor " + minor, with(Samples.small(), 4, minor >> 8, minor), 3, 4);
        }
    }

    private static void version() {
        CHECK.says("u2 45 .. 61: the VERSION (3).");
        for (int version = 0; version < 65536; version += version < 1024 ? 1 : 61) {
            byte[] file = with(Samples.small(), 6, version >> 8, version);
            CHECK.judged("VERSION " + version, file, version >= 45 && version <= 61 ? 0 : 3, 6);
        }
    }

    private static void end() {
        CHECK.says("END: nothing comes behind (29).");
        for (byte[] file : Samples.all()) {
            for (int more : new int[] {1, 2, 16, 4000 - file.length}) {
                CHECK.breaks(more + " bytes behind", Arrays.copyOf(file, file.length + more), 29, file.length);
            }
        }
    }
}
