import java.util.List;

/** Files that pass, with something of everything. */
final class Samples {
    private Samples() {
    }

    static List<byte[]> all() {
        return List.of(small(), rich(52), rich(61), plain(), face());
    }

    static byte[] small() {
        return new Maker(45).open(0x21).u2(0, 0, 0).file();
    }

    /**
     * An ABSTRACT class with two interfaces, four fields, five methods and a "SourceFile"; ToldTest
     * knows what there is to tell of it.
     */
    static byte[] rich(int version) {
        Maker m = new Maker(version);
        int number = m.number(70000);
        int big = m.longNumber(1L << 40);
        int word = m.string("caf\u00C3\u00A9");
        int error = m.classOf("java/lang/RuntimeException");
        m.u2(0x421).u2(m.classOf("A")).u2(m.classOf("java/lang/Object"));
        m.u2(2).u2(m.classOf("p/One")).u2(m.classOf("p/Two"));
        m.u2(4);
        m.member("f", 0x19, "MANY", "I").u2(1).attribute("a", "ConstantValue", 2).u2(number);
        m.member("f", 0x18, "BIG", "J").u2(1).attribute("a", "ConstantValue", 2).u2(big);
        m.member("f", 0x0A, "WORD", "Ljava/lang/String;").u2(1).attribute("a", "ConstantValue", 2).u2(word);
        m.member("f", 0x84, "sum", "[[J").u2(0);
        m.u2(5);
        richInit(m);
        m.member("m", 0x401, "none", "(JI[J)J").u2(1).attribute("a", "Exceptions", 6).u2(2).u2(error).u2(m.classOf("p/X"));
        richLoop(m, number, big, word, error);
        richSwitches(m);
        m.member("m", 8, "<clinit>", "()V").u2(1).code("c", 0, 0, 177);
        m.u2(1).attribute("a", "SourceFile", 2).u2(m.text("A.java"));
        return m.file();
    }

    private static void richInit(Maker m) {
        int above = m.method("java/lang/Object", "<init>", "()V");
        m.member("m", 1, "<init>", "()V").u2(1).code("c", 1, 1, 42, 183, above >> 8, above, 177);
    }

    private static void richLoop(Maker m, int number, int big, int word, int error) {
        int field = m.field("A", "sum", "[[J");
        int add = m.method("A", "add", "(JI)J");
        int size = m.outer("java/util/List", "size", "(J)I");
        int grid = m.classOf("[[I");
        int[] code = {
            18, number, 54, 4, 20, big >> 8, big, 63, 19, word >> 8, word, 87, 25, 0, 180, field >> 8, field, 87,
            21, 4, 132, 4, 255, 153, 0, 12, 196, 132, 0, 4, 0, 1, 167, 255, 242, 182, add >> 8, add, 88,
            185, size >> 8, size, 3, 0, 4, 5, 197, grid >> 8, grid, 2, 188, 10, 189, grid >> 8, grid,
            192, grid >> 8, grid, 193, error >> 8, error, 187, error >> 8, error, 89, 198, 0, 4, 1, 191, 191};
        m.member("m", 0x11, "loop", "(JI)V").u2(2).attribute("c", "Code", 12 + code.length + 16);
        m.u2(12, 6).u4(code.length).u1(code);
        m.u2(2, 0, 18, code.length - 1, error, 18, code.length, code.length - 1, 0).u2(0);
        m.attribute("a", "Exceptions", 4).u2(1).u2(error);
    }

    private static void richSwitches(Maker m) {
        int[] code = {
            26, 170, 0, 0, 0, 0, 0, 23, 255, 255, 255, 255, 0, 0, 0, 0, 0, 0, 0, 23, 0, 0, 0, 24,
            3, 172, 171, 0, 0, 0, 0, 20, 0, 0, 0, 1, 0, 0, 0, 9, 0, 0, 0, 19, 0, 172, 4, 200, 255, 255, 255, 254};
        m.member("m", 0x0A, "pick", "(I)I").u2(1).code("c", 1, 1, code);
    }

    /** A class that is not ABSTRACT, with text of all letters. */
    static byte[] plain() {
        Maker m = new Maker(49);
        m.text("\u0001\u007F\u00C0\u0080\u00C2\u0080\u00DF\u00BF\u00E0\u00A0\u0080\u00EF\u00BF\u00BF");
        int value = m.field("\u00C3\u00A9/B", "v", "Z");
        int call = m.method("[I", "clone", "()Ljava/lang/Object;");
        m.open(0x11).u2(1).member("f", 0x92, "v", "Z").u2(0).u2(2);
        m.member("m", 9, "twice", "(J)J").u2(1).code("c", 4, 2, 30, 31 - 1, 97, 173);
        m.member("m", 4, "get", "()Z").u2(1);
        m.code("c", 1, 1, 42, 180, value >> 8, value, 1, 182, call >> 8, call, 87, 172);
        return m.u2(0).file();
    }

    /** An INTERFACE. */
    static byte[] face() {
        Maker m = new Maker(52);
        int one = m.number(1);
        int call = m.outer("F", "half", "(I)I");
        m.u2(0x601).u2(m.classOf("F")).u2(m.classOf("java/lang/Object")).u2(1).u2(m.classOf("G"));
        m.u2(1).member("f", 0x19, "ONE", "S").u2(1).attribute("a", "ConstantValue", 2).u2(one).u2(3);
        m.member("m", 0x401, "go", "([[Ljava/lang/String;)V").u2(0);
        m.member("m", 9, "half", "(I)I").u2(1).code("c", 2, 1, 26, 5, 108, 172);
        m.member("m", 2, "own", "()V").u2(1).code("c", 2, 1, 4, 184, call >> 8, call, 87, 177);
        return m.u2(0).file();
    }
}
