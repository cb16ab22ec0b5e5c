/** Promises 6 and 7 on THE CLASS, FIELDS, METHODS and ATTRIBUTES: RULES 8, 9, 11 to 20, 29. */
public final class ClassTest {
    private static final int RETURN = 177;
    private static final Check CHECK = new Check();

    public static void main(String[] args) {
        classFlags();
        classAndAbove();
        interfaces();
        fieldFlags();
        fieldNames();
        fieldTwice();
        constants();
        methodFlags();
        methodNames();
        specialNames();
        methodTwice();
        counts();
        attributes();
        exceptions();
        sourceFile();
        CHECK.done();
    }

    private static void judged(String what, Maker m, boolean right, int rule, String mark) {
        if (right) {
            CHECK.passes(what, m.file());
        } else {
            CHECK.breaks(what, m.file(), rule, m.place(mark));
        }
    }

    private static void classFlags() {
        for (int flags = 0; flags < 65536; flags += flags < 0x800 ? 1 : 0x7FF) {
            boolean known = (flags | 0x631) == 0x631;
            boolean isInterface = (flags & 0x200) != 0;
            boolean isFinal = (flags & 0x10) != 0;
            boolean isAbstract = (flags & 0x400) != 0;
            boolean right = known && !(isFinal && isAbstract);
            if (isInterface) {
                right = known && isAbstract && !isFinal && (flags & 0x20) == 0;
            }
            judged("class FLAGS " + flags, new Maker(52).open(flags).u2(0, 0, 0), right, 13, "flags");
        }
    }

    private static void classAndAbove() {
        Maker m = new Maker(52);
        m.u2(0x21).mark("self").u2(m.text("a")).u2(m.classOf("B"));
        judged("itself a TEXT", m, false, 8, "self");
        m = new Maker(52);
        m.u2(0x21).mark("self").u2(m.classOf("[I")).u2(0);
        judged("itself an array", m, false, 9, "self");
        m = new Maker(52);
        m.u2(0x21).u2(m.classOf("A")).mark("above").u2(0).u2(0);
        judged("above is 0", m, false, 8, "above");
        m = new Maker(52);
        m.u2(0x21).u2(m.classOf("A")).mark("above").u2(m.classOf("[LA;")).u2(0);
        judged("above an array", m, false, 9, "above");
        m = new Maker(52);
        m.u2(0x21).u2(m.classOf("A")).mark("above").u2(m.classOf("A")).u2(0, 0, 0, 0);
        judged("the same CLASS", m, false, 14, "above");
        m = new Maker(52);
        m.u2(0x21).u2(m.classOf("A")).mark("above").u2(m.one(7, m.otherText("A"))).u2(0, 0, 0, 0);
        judged("the same TEXT in another entry", m, false, 14, "above");
        m = new Maker(52);
        m.u2(0x21).u2(m.classOf("A")).mark("above").u2(m.classOf("B")).u2(0, 0, 0, 0);
        judged("another one above", m, true, 0, "above");
        m = new Maker(52);
        m.u2(0x600).u2(m.classOf("A")).mark("above").u2(m.classOf("B")).u2(0, 0, 0, 0);
        judged("another one above an INTERFACE", m, false, 14, "above");
        m = new Maker(52);
        m.u2(0x600).u2(m.classOf("java/lang/Object")).mark("above").u2(m.one(7, m.otherText("java/lang/Object"))).u2(0, 0, 0, 0);
        judged("java/lang/Object itself", m, false, 14, "above");
        m = new Maker(52);
        m.u2(0x601).u2(m.classOf("A")).mark("above").u2(m.one(7, m.otherText("java/lang/Object"))).u2(0, 0, 0, 0);
        judged("an INTERFACE", m, true, 0, "above");
    }

    private static void interfaces() {
        for (int n = 19; n <= 21; n++) {
            Maker m = headOnly(0x21).mark("n").u2(n);
            for (int i = 0; i < n; i++) {
                m.u2(m.classOf("I" + i));
            }
            judged(n + " interfaces", m.u2(0, 0, 0), n <= 20, 15, "n");
        }
        Maker m = headOnly(0x21).u2(2);
        m.u2(m.classOf("I")).mark("second").u2(m.one(7, m.otherText("I"))).u2(0, 0, 0);
        judged("twice", m, false, 16, "second");
        m = headOnly(0x21).u2(2);
        m.u2(m.classOf("Aa")).mark("second").u2(m.classOf("BB")).u2(0, 0, 0);
        judged("of the same hash", m, true, 0, "second");
        m = headOnly(0x21).u2(2);
        m.u2(m.classOf("I")).mark("second").u2(m.text("I"));
        judged("no CLASS", m, false, 8, "second");
        m = headOnly(0x21).u2(2);
        m.u2(m.classOf("I")).mark("second").u2(m.classOf("[I"));
        judged("an array", m, false, 9, "second");
    }

    private static Maker headOnly(int flags) {
        Maker m = new Maker(52);
        return m.u2(flags).u2(m.classOf("A")).u2(m.classOf("java/lang/Object"));
    }

    private static void fieldFlags() {
        for (int flags = 0; flags < 65536; flags += flags < 0x200 ? 1 : 0x1FF) {
            boolean right = (flags | 0x9F) == 0x9F && Integer.bitCount(flags & 7) <= 1;
            Maker m = new Maker(52).open(0x21).u2(1).member("f", flags, "f", "I").u2(0, 0, 0);
            judged("field FLAGS " + flags, m, right, 13, "f");
            m = new Maker(52).open(0x600).u2(1).member("f", flags, "f", "I").u2(0, 0, 0);
            judged("field FLAGS of an INTERFACE " + flags, m, flags == 0x19, 13, "f");
        }
    }

    private static void fieldNames() {
        Maker m = new Maker(52).open(0x21).u2(1, 0);
        m.mark("name").u2(m.classOf("A")).u2(m.text("I"));
        judged("field's name no TEXT", m, false, 8, "name");
        m = new Maker(52).open(0x21).u2(1, 0);
        m.u2(m.text("f")).mark("type").u2(0);
        judged("field's descriptor no TEXT", m, false, 8, "type");
        for (String name : new String[] {"<init>", "<clinit>", "a/b", "", "a.b"}) {
            m = new Maker(52).open(0x21).u2(1).member("f", 0, name, "F").u2(0, 0, 0);
            judged("field's name " + name, m, false, 9, "f.name");
        }
        for (String type : new String[] {"()V", "V", "", "La", "(F)V", "[[[[[[[[[F"}) {
            m = new Maker(52).open(0x21).u2(1).member("f", 0, "f", type).u2(0, 0, 0);
            judged("field's descriptor " + type, m, false, 11, "f.type");
        }
        for (String type : new String[] {"F", "D", "[[D"}) {
            m = new Maker(52).open(0x21).u2(1).member("f", 0, "f", type).u2(0, 0, 0);
            judged("field's descriptor " + type, m, false, 12, "f.type");
        }
    }

    private static void fieldTwice() {
        Maker m = new Maker(52).open(0x21).u2(3).member("a", 0, "f", "I").u2(0).member("b", 0, "f", "J").u2(0);
        judged("other descriptor, other name", m.member("c", 0, "g", "I").u2(0, 0, 0), true, 0, "c");
        m = new Maker(52).open(0x21).u2(3).member("a", 0, "f", "I").u2(0).member("b", 0, "f", "J").u2(0);
        m.mark("c").u2(1).u2(m.otherText("f")).u2(m.otherText("I")).u2(9, 0, 0);
        judged("both alike, by TEXTS", m, false, 16, "c");
    }

    private static void constants() {
        String text = "Ljava/lang/String;";
        String[] types = {"B", "C", "I", "S", "Z", "J", text, "[I", "Ljava/lang/Object;", "[J", "LI;"};
        for (String type : types) {
            for (int kind : new int[] {1, 3, 5, 7, 8, 12, 0}) {
                Maker m = new Maker(52);
                int k = entryOf(m, kind);
                m.open(0x21).u2(1).member("f", 8, "f", type).u2(1).attribute("c", "ConstantValue", 2);
                m.mark("value").u2(k).u2(0, 0);
                int due = type.equals("J") ? 5 : type.equals(text) ? 8 : type.length() == 1 ? 3 : -1;
                judged("constant of " + type + ", KIND " + kind, m, kind == due, 8, "value");
            }
        }
        Maker m = new Maker(52);
        int k = m.number(5);
        m.open(0x21).u2(1).member("f", 0x10, "f", "I").u2(1).attribute("c", "ConstantValue", 2).u2(k).u2(0, 0);
        judged("constant of a field that is not STATIC", m, false, 19, "c");
        m = new Maker(52);
        k = m.number(5);
        m.open(0x21).u2(1).member("f", 8, "f", "I").u2(2).attribute("c", "ConstantValue", 2).u2(k);
        m.attribute("d", "ConstantValue", 2).u2(k).u2(0, 0);
        judged("two constants", m, false, 19, "d");
        for (int length : new int[] {0, 1, 3, -1, 65538}) {
            m = new Maker(52);
            k = m.number(5);
            m.open(0x21).u2(1).member("f", 8, "f", "I").u2(1).attribute("c", "ConstantValue", length).u2(k).u2(0, 0, 0);
            judged("constant of length " + length, m, false, 18, "c.length");
        }
    }

    private static int entryOf(Maker m, int kind) {
        switch (kind) {
            case 1:
                return m.text("x");
            case 3:
                return m.number(7);
            case 5:
                return m.longNumber(7);
            case 7:
                return m.classOf("x");
            case 8:
                return m.string("x");
            case 12:
                return m.named("x", "I");
            default:
                return 0;
        }
    }

    private static void methodFlags() {
        for (int classFlags : new int[] {0x21, 0x421, 0x601}) {
            boolean isInterface = (classFlags & 0x200) != 0;
            for (int flags = 0; flags < 65536; flags += flags < 0x800 ? 1 : 0x7FF) {
                boolean isAbstract = (flags & 0x400) != 0;
                boolean right = (flags | 0x41F) == 0x41F && Integer.bitCount(flags & 7) <= 1;
                right &= !isAbstract || (flags & 0x1A) == 0 && (classFlags & 0x400) != 0;
                right &= !isInterface || Integer.bitCount(flags & 3) == 1 && (flags & 0x10) == 0;
                Maker m = new Maker(52).open(classFlags).u2(0, 1).member("m", flags, "m", "()V");
                if (isAbstract) {
                    m.u2(0, 0);
                } else {
                    m.u2(1).code("c", 0, 1, RETURN).u2(0);
                }
                judged("method FLAGS " + flags + " in " + classFlags, m, right, 13, "m");
            }
        }
    }

    private static void methodNames() {
        Maker m = new Maker(52).open(0x21).u2(0, 1, 0);
        m.mark("name").u2(m.classOf("A")).u2(m.text("()V"));
        judged("method's name no TEXT", m, false, 8, "name");
        m = new Maker(52).open(0x21).u2(0, 1, 0);
        m.u2(m.text("m")).mark("type").u2(0);
        judged("method's descriptor no TEXT", m, false, 8, "type");
        for (String name : new String[] {"<init", "a/b", "", "<any>"}) {
            m = new Maker(52).open(0x21).u2(0, 1).member("m", 0, name, "()F").u2(0, 0);
            judged("method's name " + name, m, false, 9, "m.name");
        }
        for (String type : new String[] {"I", "V", "", "()", "F", "(V)V"}) {
            m = new Maker(52).open(0x21).u2(0, 1).member("m", 0, "<init>", type).u2(0, 0);
            judged("method's descriptor " + type, m, false, 11, "m.type");
        }
        for (String type : new String[] {"()F", "(D)V", "([[F)V"}) {
            m = new Maker(52).open(0x21).u2(0, 1).member("m", 0, "<init>", type).u2(0, 0);
            judged("method's descriptor " + type, m, false, 12, "m.type");
        }
    }

    private static void specialNames() {
        special(0x421, 0, "<init>", "()V", true);
        special(0x421, 2, "<init>", "(IJ)V", true);
        special(0x421, 1, "<init>", "()I", false);
        special(0x421, 8, "<init>", "()V", false);
        special(0x421, 0x10, "<init>", "()V", false);
        special(0x421, 0x401, "<init>", "()V", false);
        special(0x601, 1, "<init>", "()V", false);
        special(0x421, 8, "<clinit>", "()V", true);
        special(0x421, 9, "<clinit>", "()V", false);
        special(0x421, 0x18, "<clinit>", "()V", false);
        special(0x421, 0, "<clinit>", "()V", false);
        special(0x421, 8, "<clinit>", "(I)V", false);
        special(0x421, 8, "<clinit>", "()I", false);
        special(0x601, 9, "<clinit>", "()V", false);
    }

    private static void special(int classFlags, int flags, String name, String type, boolean right) {
        Maker m = new Maker(52).open(classFlags).u2(0, 1).member("m", flags, name, type);
        m.u2(1).code("c", 0, 9, RETURN).u2(0);
        judged(name + type + " " + flags, m, right, 17, "m.name");
    }

    private static void methodTwice() {
        Maker m = new Maker(52).open(0x421).u2(0, 3).member("a", 0x400, "m", "()V").u2(0);
        m.member("b", 0x400, "m", "()I").u2(0).member("c", 0x400, "n", "()V").u2(0, 0);
        judged("other descriptor, other name", m, true, 0, "c");
        m = new Maker(52).open(0x421).u2(0, 2).member("a", 0x400, "m", "()V").u2(0);
        m.mark("b").u2(0x401).u2(m.otherText("m")).u2(m.otherText("()V")).u2(5, 0);
        judged("twice", m, false, 16, "b");
        m = new Maker(52).open(0x421).u2(1).member("a", 0, "m", "I").u2(0).u2(1).member("b", 0x400, "m", "()V").u2(0, 0);
        judged("a field and a method", m, true, 0, "b");
        m = new Maker(52).open(0x421).u2(0, 2).member("a", 0x400, "<clinit>", "()V").u2(0);
        judged("17 ahead of 16", m, false, 17, "a.name");
    }

    private static void counts() {
        for (int n = 59; n <= 61; n++) {
            Maker m = new Maker(52).open(0x421).mark("fields").u2(n);
            for (int i = 0; i < n; i++) {
                m.member("f", 0, "f" + i, "I").u2(0);
            }
            judged(n + " fields", m.u2(0, 0), n <= 60, 15, "fields");
            m = new Maker(52).open(0x421).u2(0).mark("methods").u2(n);
            for (int i = 0; i < n; i++) {
                m.member("m", 0x400, "m" + i, "()V").u2(0);
            }
            judged(n + " methods", m.u2(0), n <= 60, 15, "methods");
        }
    }

    private static void attributes() {
        Maker m = new Maker(52).open(0x21).u2(1).member("f", 0, "f", "I").u2(1);
        m.mark("a").u2(m.classOf("A"));
        judged("an ATTRIBUTE's name no TEXT", m, false, 8, "a");
        m = new Maker(52).open(0x21).u2(1).member("f", 8, "f", "I").u2(1).attribute("a", "Constantvalue", 2).u2(0, 0, 0);
        judged("another name", m, false, 19, "a");
        m = new Maker(52).open(0x21).u2(1).member("f", 8, "f", "I").u2(1);
        byte[] file = m.u2(m.text("Other")).u2(0).file();
        CHECK.breaks("the length is not there", file, 1, file.length);
        for (String name : new String[] {"Code", "Exceptions", "SourceFile", "", "Other"}) {
            m = new Maker(52).open(0x21).u2(1).member("f", 8, "f", "I").u2(1).attribute("a", name, 2).u2(0, 0, 0);
            judged("of a field: " + name, m, false, 19, "a");
        }
        for (String name : new String[] {"ConstantValue", "SourceFile", "Signature"}) {
            m = new Maker(52).open(0x21).u2(0, 1).member("m", 0, "m", "()V").u2(1).attribute("a", name, 2).u2(0, 0, 0);
            judged("of a method: " + name, m, false, 19, "a");
        }
        for (String name : new String[] {"ConstantValue", "Code", "Exceptions", "Deprecated"}) {
            m = new Maker(52).open(0x21).u2(0, 0, 1).attribute("a", name, 2).u2(0);
            judged("of the class: " + name, m, false, 19, "a");
        }
        m = new Maker(52).open(0x21).u2(0, 1).member("m", 0, "m", "()V").u2(0, 0);
        judged("no Code", m, false, 20, "m");
        m = new Maker(52).open(0x21).u2(0, 1).member("m", 0, "m", "()V").u2(1).attribute("e", "Exceptions", 2).u2(0, 0);
        judged("Exceptions and no Code", m, false, 20, "m");
        m = new Maker(52).open(0x421).u2(0, 1).member("m", 0x400, "m", "()V").u2(1).code("c", 0, 1, RETURN).u2(0);
        judged("Code of an ABSTRACT one", m, false, 19, "c");
        m = new Maker(52).open(0x21).u2(0, 1).member("m", 0, "m", "()V").u2(2).code("c", 0, 1, RETURN).code("d", 0, 1, RETURN).u2(0);
        judged("Code twice", m, false, 19, "d");
        m = new Maker(52).open(0x21).u2(0, 1).member("m", 0, "m", "()V").u2(1).attribute("c", "Code", 14);
        m.u2(0, 1).u4(1).u1(RETURN).u2(0, 0, 0, 0);
        judged("Code that ends too early", m, false, 18, "c.length");
    }

    private static void exceptions() {
        Maker m = new Maker(52).open(0x421).u2(0, 1).member("m", 0x400, "m", "()V").u2(1).attribute("e", "Exceptions", 8);
        m.u2(3).u2(m.classOf("X")).u2(m.classOf("X")).u2(m.classOf("[I")).u2(0);
        judged("Exceptions", m, true, 0, "e");
        m = new Maker(52).open(0x421).u2(0, 1).member("m", 0x400, "m", "()V").u2(1).attribute("e", "Exceptions", 6);
        m.u2(2).u2(m.classOf("X")).mark("second").u2(m.text("X")).u2(0);
        judged("Exceptions of no CLASS", m, false, 8, "second");
        m = new Maker(52).open(0x421).u2(0, 1).member("m", 0x400, "m", "()V").u2(1).attribute("e", "Exceptions", 5);
        m.u2(1).u2(m.classOf("X")).u2(0);
        judged("Exceptions that end elsewhere", m, false, 18, "e.length");
        m = new Maker(52).open(0x421).u2(0, 1).member("m", 0x400, "m", "()V").u2(2).attribute("e", "Exceptions", 2).u2(0);
        judged("Exceptions twice", m.attribute("f", "Exceptions", 2).u2(0, 0), false, 19, "f");
        m = new Maker(52).open(0x21).u2(0, 1).member("m", 0, "m", "()V").u2(2).attribute("e", "Exceptions", 2).u2(0);
        judged("Exceptions ahead of Code", m.code("c", 0, 1, RETURN).u2(0), true, 0, "e");
    }

    private static void sourceFile() {
        Maker m = new Maker(52).open(0x21).u2(0, 0, 1).attribute("s", "SourceFile", 2);
        judged("SourceFile", m.u2(m.text("A.java")), true, 0, "s");
        m = new Maker(52).open(0x21).u2(0, 0, 1).attribute("s", "SourceFile", 2);
        judged("SourceFile to a CLASS", m.mark("to").u2(m.classOf("A")), false, 8, "to");
        m = new Maker(52).open(0x21).u2(0, 0, 1).attribute("s", "SourceFile", 3);
        judged("SourceFile of length 3", m.u2(m.text("A.java")).u1(0), false, 18, "s.length");
        m = new Maker(52).open(0x21).u2(0, 0, 2).attribute("s", "SourceFile", 2);
        m.u2(m.text("A.java")).attribute("t", "SourceFile", 2);
        judged("SourceFile twice", m, false, 19, "t");
        m = new Maker(52).open(0x21).u2(0, 0, 1).attribute("s", "SourceFile", 2);
        judged("bytes behind", m.u2(m.text("A.java")).mark("behind").u1(0), false, 29, "behind");
    }
}
