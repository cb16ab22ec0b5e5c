import java.util.Arrays;

/** Promises 6 and 7 on HEAD and THE POOL: RULES 1 to 12. */
public final class PoolTest {
    private static final Check CHECK = new Check();

    public static void main(String[] args) {
        head();
        count();
        kinds();
        longs();
        letters();
        classNames();
        strings();
        namedNames();
        descriptors();
        floats();
        members();
        order();
        fullFile();
        CHECK.done();
    }

    /** The rest of a class that passes, behind the entries that a test made. */
    private static byte[] rest(Maker m) {
        return m.open(0x21).u2(0, 0, 0).file();
    }

    private static byte[] with(byte[] file, int at, int value) {
        byte[] other = file.clone();
        other[at] = (byte) value;
        return other;
    }

    private static void head() {
        byte[] file = rest(new Maker(45));
        CHECK.passes("version 45", file);
        for (int i = 0; i < file.length; i++) {
            CHECK.breaks("the first " + i, Arrays.copyOf(file, i), 1, i);
        }
        for (int i = 0; i < 4; i++) {
            CHECK.breaks("magic byte " + i, with(file, i, 0), 2, 0);
        }
        CHECK.breaks("two wrong bytes", new byte[2], 1, 2);
        CHECK.breaks("minor 1", with(file, 5, 1), 3, 4);
        CHECK.breaks("minor 256", with(file, 4, 1), 3, 4);
        CHECK.breaks("version 44", with(file, 7, 44), 3, 6);
        CHECK.passes("version 61", with(file, 7, 61));
        CHECK.breaks("version 62", with(file, 7, 62), 3, 6);
        CHECK.breaks("version 301", with(file, 6, 1), 3, 6);
        CHECK.breaks("a byte behind", Arrays.copyOf(file, file.length + 1), 29, file.length);
    }

    private static void count() {
        CHECK.breaks("n is 0", rest(new Maker(52).sayCount(0)), 4, 8);
        CHECK.breaks("n is 301", rest(new Maker(52).sayCount(301)), 4, 8);
        CHECK.breaks("n is 65535", rest(new Maker(52).sayCount(65535)), 4, 8);
        Maker one = new Maker(52).sayCount(1);
        CHECK.breaks("n is 1: the class comes at once", one.u2(0x21, 1).file(), 8, 12);
        Maker most = new Maker(52);
        for (int i = 0; i < 295; i++) {
            most.number(i);
        }
        CHECK.passes("n is 300", rest(most));
    }

    private static void kinds() {
        for (int kind = 0; kind < 256; kind++) {
            Maker m = new Maker(52);
            m.text("x");
            int k = m.raw(kind);
            boolean known = kind == 1 || kind == 3 || kind == 5 || kind >= 7 && kind <= 12;
            boolean refused = kind == 4 || kind == 6 || kind >= 15 && kind <= 20;
            if (known) {
                byte[] file = m.file();
                CHECK.breaks("KIND " + kind + ", then nothing", file, 1, file.length);
            } else {
                CHECK.breaks("KIND " + kind, rest(m), refused ? 7 : 6, m.place(k));
            }
        }
    }

    private static void longs() {
        Maker m = new Maker(52);
        int k = m.longNumber(-1);
        CHECK.passes("a LONG", rest(m));
        m = new Maker(52);
        m.longNumber(1);
        m.sayCount(2);
        CHECK.breaks("a LONG as the last", m.file(), 4, 10);
        CHECK.breaks("a LONG as the last, not all there", Arrays.copyOf(m.file(), 18), 1, 18);
        m = new Maker(52);
        for (int i = 1; i < 299; i++) {
            m.number(i);
        }
        k = m.longNumber(1);
        m.sayCount(300);
        CHECK.breaks("a LONG as number 299", m.file(), 4, m.place(k));
        m = new Maker(52);
        k = m.longNumber(1);
        int string = m.one(8, k + 1);
        CHECK.breaks("to the number behind a LONG", rest(m), 8, m.place(string) + 1);
    }

    private static void letters() {
        for (int b = 1; b < 0x80; b++) {
            CHECK.passes("letter " + b, textFile(b));
        }
        badLetter(0, 0);
        for (int b = 0x80; b <= 0xC1; b++) {
            if (b != 0xC0) {
                badLetter(0, b, 0x80);
            }
        }
        for (int b = 0xF0; b <= 0xFF; b++) {
            badLetter(1, 'a', b, 0x80, 0x80);
        }
        CHECK.passes("C0 80", textFile(0xC0, 0x80));
        badLetter(1, 0xC0, 0x81);
        badLetter(1, 0xC0, 0x7F);
        CHECK.passes("C2 80, DF BF", textFile(0xC2, 0x80, 0xDF, 0xBF));
        badLetter(1, 0xC2, 0x7F);
        badLetter(1, 0xDF, 0xC0);
        CHECK.passes("E0 A0 80, E0 BF BF", textFile(0xE0, 0xA0, 0x80, 0xE0, 0xBF, 0xBF));
        badLetter(1, 0xE0, 0x9F, 0x80);
        badLetter(1, 0xE0, 0xC0, 0x80);
        badLetter(2, 0xE0, 0xA0, 0x7F);
        badLetter(2, 0xE0, 0xA0, 0xC0);
        CHECK.passes("E1 80 80, EF BF BF", textFile(0xE1, 0x80, 0x80, 0xEF, 0xBF, 0xBF));
        badLetter(1, 0xE1, 0x7F, 0x80);
        badLetter(2, 0xEF, 0x80, 'a');
        badLetter(1, 0xE1, 'a');
        for (int[] early : new int[][] {{0xC0}, {'a', 0xC2}, {0xE0}, {0xE0, 0xA0}, {0xEF, 0x80}}) {
            CHECK.breaks("ends too early " + Arrays.toString(early), textFile(early), 5, 11);
        }
        CHECK.passes("no letter", textFile());
        Maker m = new Maker(52);
        m.raw(1, 255, 255, 'a', 0);
        CHECK.breaks("a wrong letter ahead of the end", m.file(), 5, 14);
        m = new Maker(52);
        m.raw(1, 255, 255, 'a', 0xC2);
        CHECK.breaks("the end ahead of the TEXT's", m.file(), 1, 15);
    }

    private static byte[] textFile(int... letters) {
        Maker m = new Maker(52);
        m.otherText(Maker.bytes(letters));
        return rest(m);
    }

    private static void badLetter(int index, int... letters) {
        CHECK.breaks("letters " + Arrays.toString(letters), textFile(letters), 5, 13 + index);
    }

    private static void classNames() {
        String[] right = {"a", "a/b", "a/b/c", "(", "a b", "F", "D", "\u00C2\u0080", "[I", "[[[[[[[[Z", "[La/b;",
            "[[B", "[C", "[J", "[S", "LA", "V", "init"};
        for (String name : right) {
            Maker m = new Maker(52);
            m.classOf(name);
            CHECK.passes("CLASS " + name, rest(m));
        }
        String[] wrong = {"", "/", "a/", "/a", "a//b", "a.b", "a;", "La;", "a[", "<init>", "a>b", "[", "[V", "[[[[[[[[[I",
            "[La", "[L;", "[La//b;", "[I;", "[II", "[()V", "[[[[[[[[[F", "[FF", "[a", "[L[I;"};
        for (String name : wrong) {
            Maker m = new Maker(52);
            int k = m.classOf(name);
            CHECK.breaks("CLASS " + name, rest(m), 9, m.place(k) + 1);
        }
        for (String name : new String[] {"[F", "[D", "[[[[[[[[D"}) {
            Maker m = new Maker(52);
            int k = m.classOf(name);
            CHECK.breaks("CLASS " + name, rest(m), 12, m.place(k) + 1);
        }
        Maker m = new Maker(52);
        int number = m.number(1);
        int k = m.one(7, number);
        CHECK.breaks("CLASS to an INT", rest(m), 8, m.place(k) + 1);
    }

    private static void strings() {
        Maker m = new Maker(52);
        m.string("any . text [");
        CHECK.passes("STRING", rest(m));
        for (int to : new int[] {0, 1, 9, 65535}) {
            m = new Maker(52);
            int k = m.one(8, to);
            CHECK.breaks("STRING to " + to, rest(m), 8, m.place(k) + 1);
        }
    }

    private static void namedNames() {
        for (String name : new String[] {"a", "<init>", "<clinit>", "(", "\u00E0\u00A0\u0080"}) {
            Maker m = new Maker(52);
            m.named(name, "I");
            CHECK.passes("NAMED " + name, rest(m));
        }
        for (String name : new String[] {"", "a.b", "a/b", "[a", "a;", "<a", "a>", "<init", "<init>a", "<clinit>>", "<Init>",
            "()V/x", "(I/b", "()La/b;c/d", "()/"}) {
            Maker m = new Maker(52);
            int k = m.named(name, "F");
            CHECK.breaks("NAMED " + name, rest(m), 9, m.place(k) + 1);
        }
        Maker m = new Maker(52);
        int k = m.two(12, 300, 300);
        CHECK.breaks("NAMED to no name", rest(m), 8, m.place(k) + 1);
        m = new Maker(52);
        k = m.two(12, m.text("a"), 2);
        CHECK.breaks("NAMED to no descriptor", rest(m), 8, m.place(k) + 3);
    }

    private static void descriptors() {
        String longs = "J".repeat(125);
        String[] right = {"B", "C", "I", "J", "S", "Z", "La;", "La/b/F;", "[[[[[[[[I", "[Lx;", "()V", "()I", "()[J", "()La;",
            "(I)V", "(IJ[[Lx;Z)La/b;", "(" + longs + ")V", "(" + "I".repeat(250) + ")V", "(" + "[J".repeat(250) + ")J",
            "(" + "La;".repeat(250) + ")V"};
        for (String type : right) {
            Maker m = new Maker(52);
            m.named("a", type);
            CHECK.passes("NAMED " + type, rest(m));
        }
        String[] wrong = {"", "V", "[V", "[[[[[[[[[I", "L;", "La", "La//b;", "L/a;", "La;;", "II", "a", "(", "()", "()VV", "()II",
            "(V)V", "()[V", "(I", ")V", "I()V", "(()V)V", "(I)", "(La)V", "(" + longs + "I)V", "(" + "I".repeat(251) + ")V",
            "FF", "(F", "(FV)V", "(F)VF", "[[[[[[[[[D", "(L[F;)V", "L[I;", "(D)", "()[[[[[[[[[J", "(" + "F".repeat(251) + ")V"};
        for (String type : wrong) {
            Maker m = new Maker(52);
            int k = m.named("a", type);
            CHECK.breaks("NAMED " + type, rest(m), 11, m.place(k) + 3);
        }
    }

    private static void floats() {
        for (String type : new String[] {"F", "D", "[F", "(F)V", "()D", "(ILx;[[[D)V", "(F)F", "([D[F)[D"}) {
            Maker m = new Maker(52);
            int k = m.named("a", type);
            CHECK.breaks("NAMED " + type, rest(m), 12, m.place(k) + 3);
        }
        for (String type : new String[] {"LF;", "(LD;)LF;", "[LaF;"}) {
            Maker m = new Maker(52);
            m.named("a", type);
            CHECK.passes("NAMED " + type, rest(m));
        }
    }

    private static void members() {
        member(9, "a", "I", true);
        member(9, "a", "[[Lx;", true);
        member(9, "a", "()V", false);
        member(9, "<init>", "I", false);
        member(9, "<clinit>", "I", false);
        member(10, "a", "()I", true);
        member(10, "<init>", "(I)V", true);
        member(10, "<init>", "()I", false);
        member(10, "<init>", "I", false);
        member(10, "<clinit>", "()V", false);
        member(10, "a", "I", false);
        member(11, "a", "(J)J", true);
        member(11, "a", "J", false);
        member(11, "<init>", "()V", false);
        member(11, "<clinit>", "()V", false);
        for (int kind = 9; kind <= 11; kind++) {
            Maker m = new Maker(52);
            int k = m.two(kind, m.text("a"), 0);
            CHECK.breaks("to no CLASS " + kind, rest(m), 8, m.place(k) + 1);
            m = new Maker(52);
            int owner = m.classOf("[I");
            k = m.two(kind, owner, owner);
            CHECK.breaks("to no NAMED " + kind, rest(m), 8, m.place(k) + 3);
        }
    }

    private static void member(int kind, String name, String type, boolean right) {
        Maker m = new Maker(52);
        int k = m.two(kind, m.classOf("x"), m.named(name, type));
        String what = kind + " " + name + " " + type;
        if (right) {
            CHECK.passes(what, rest(m));
        } else {
            CHECK.breaks(what, rest(m), 10, m.place(k) + 3);
        }
    }

    /** All of CLASS, STRING and NAMED come ahead of the members, and KINDS ahead of all. */
    private static void order() {
        Maker m = new Maker(52);
        m.two(9, 0, 0);
        int k = m.one(8, 0);
        m.one(7, 0);
        CHECK.breaks("STRING ahead of FIELD", rest(m), 8, m.place(k) + 1);
        m = new Maker(52);
        m.one(8, 0);
        k = m.raw(2);
        CHECK.breaks("KIND ahead of what it refers to", rest(m), 6, m.place(k));
        m = new Maker(52);
        k = m.two(11, m.classOf("x"), m.named("a", "I"));
        m.two(9, 0, 0);
        CHECK.breaks("members by numbers", rest(m), 10, m.place(k) + 3);
        m = new Maker(52);
        int text = m.text("x");
        int type = m.text("I");
        k = m.two(9, type + 2, type + 3);
        m.one(7, text);
        m.two(12, text, type);
        CHECK.passes("to later numbers", rest(m));
    }

    /** TEXTS that break off as descriptors, as the very last bytes that a FILE can have. */
    private static void fullFile() {
        for (String last : new String[] {"", "(", "[", "([", "L", "(L", "La", "()", "()[", "()L", "(I", "[[[[[[[[[", "<init>"}) {
            Maker m = new Maker(52);
            m.otherText("x".repeat(4000 - 10 - 3 - 3 - last.length()));
            m.otherText(last);
            CHECK.due("length", m.file().length, 4000);
            CHECK.breaks("the last bytes " + last, m.file(), 1, 4000);
        }
        for (int kind : new int[] {1, 3, 5, 7, 9}) {
            Maker m = new Maker(52);
            m.otherText("x".repeat(4000 - 10 - 3 - 1));
            m.raw(kind);
            CHECK.breaks("the last byte is KIND " + kind, m.file(), 1, 4000);
        }
    }
}
