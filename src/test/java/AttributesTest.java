/** ATTRIBUTES, sentence by sentence: RULES 8, 18, 19 and 20. */
public final class AttributesTest {
    private static final int RETURN = 177;
    private static final String[] NAMES = {"ConstantValue", "Code", "Exceptions", "SourceFile"};
    private static final String[] OWNERS = {"STATIC field", "field", "method", "ABSTRACT method", "class"};
    private static final Check CHECK = new Check();

    public static void main(String[] args) {
        count();
        nameIsText();
        mayBeThere();
        once();
        otherNames();
        lengthAheadOfNineteen();
        endsJustThere();
        constantOfStatic();
        constantKinds();
        codeMustBeThere();
        exceptions();
        sourceFile();
        CHECK.done();
    }

    private static void judged(String what, Maker m, int rule, String mark) {
        CHECK.judged(what, m.file(), rule, m.place(mark));
    }

    /** A class up to the ATTRIBUTES of a field, of a method or of the class. */
    private static Maker upTo(String owner) {
        Maker m = new Maker(52);
        m.number(5);
        switch (owner) {
            case "STATIC field":
                return m.open(0x421).u2(1).member("o", 8, "f", "I");
            case "field":
                return m.open(0x421).u2(1).member("o", 0, "f", "I");
            case "method":
                return m.open(0x421).u2(0, 1).member("o", 8, "m", "()V");
            case "ABSTRACT method":
                return m.open(0x421).u2(0, 1).member("o", 0x400, "m", "()V");
            default:
                return m.open(0x421).u2(0, 0);
        }
    }

    /** What comes behind the ATTRIBUTES of this owner. */
    private static Maker behind(Maker m, String owner) {
        return owner.endsWith("field") ? m.u2(0, 0) : owner.endsWith("method") ? m.u2(0) : m;
    }

    private static Maker add(Maker m, String mark, String name) {
        switch (name) {
            case "ConstantValue":
                return m.attribute(mark, name, 2).u2(1);
            case "Code":
                return m.code(mark, 0, 0, RETURN);
            case "Exceptions":
                return m.attribute(mark, name, 2).u2(0);
            default:
                return m.attribute(mark, name, 2).u2(m.text("A.java"));
        }
    }

    private static boolean may(String owner, String name) {
        switch (name) {
            case "ConstantValue":
                return owner.equals("STATIC field");
            case "Code":
                return owner.equals("method");
            case "Exceptions":
                return owner.endsWith("method");
            default:
                return owner.equals("class");
        }
    }

    private static void count() {
        CHECK.says("ATTRIBUTES: u2 how many");
        for (String owner : OWNERS) {
            Maker m = behind(upTo(owner).u2(0), owner);
            judged("none of a " + owner, m, owner.equals("method") ? 20 : 0, owner.equals("class") ? "flags" : "o");
            byte[] file = upTo(owner).u2(1).file();
            CHECK.breaks("one of a " + owner + ", and nothing comes", file, 1, file.length);
            file = upTo(owner).u2(0xFFFF).file();
            CHECK.breaks("65535 of a " + owner + ", and nothing comes", file, 1, file.length);
        }
        Maker m = add(add(upTo("method").u2(2), "a", "Code"), "b", "Exceptions").u2(0);
        judged("two of a method", m, 0, "a");
        m = add(add(upTo("method").u2(2), "a", "Exceptions"), "b", "Code").u2(0);
        judged("two of a method, turned round", m, 0, "a");
        byte[] file = add(upTo("method").u2(2), "a", "Code").file();
        CHECK.breaks("two of a method, and one comes", file, 1, file.length);
        // The name is then how many the class has, and the length's first half the name of its first one.
        m = add(add(upTo("method").u2(1), "a", "Code"), "b", "Exceptions").u2(0);
        judged("one of a method, and two come", m, 8, "b.length");
    }

    private static void nameIsText() {
        CHECK.says("each: u2 a TEXT (8) (PLACE of the ATTRIBUTE)");
        for (String owner : OWNERS) {
            for (int wrong : new int[] {0, 1, 3, 299, 0x8002, 0xFFFF}) {
                Maker m = upTo(owner).u2(1).mark("a").u2(wrong).u4(2).u2(1);
                judged("the name of one of a " + owner + " is " + wrong, m, 8, "a");
                m = upTo(owner).u2(1).mark("a").u2(wrong);
                judged("a wrong name ahead of a length that is not there", m, 8, "a");
            }
        }
    }

    private static void mayBeThere() {
        CHECK.says("then, whether it may be there, and once (19, at the ATTRIBUTE");
        for (String owner : OWNERS) {
            for (String name : NAMES) {
                Maker m;
                if (owner.equals("method") && !name.equals("Code")) {
                    m = add(add(upTo(owner).u2(2), "c", "Code"), "a", name);
                } else {
                    m = add(upTo(owner).u2(1), "a", name);
                }
                judged(name + " of a " + owner, behind(m, owner), may(owner, name) ? 0 : 19, "a");
            }
        }
    }

    private static void once() {
        CHECK.says("and once (19");
        for (String owner : OWNERS) {
            for (String name : NAMES) {
                if (may(owner, name)) {
                    Maker m = add(add(upTo(owner).u2(2), "a", name), "b", name);
                    judged(name + " twice, of a " + owner, behind(m, owner), 19, "b");
                }
            }
        }
        Maker m = add(add(add(upTo("method").u2(3), "a", "Code"), "b", "Exceptions"), "c", "Code").u2(0);
        judged("Code twice, Exceptions between", m, 19, "c");
        m = add(upTo("class").u2(2), "a", "SourceFile");
        int again = m.otherText("SourceFile");
        judged("SourceFile twice, by another TEXT", m.mark("b").u2(again).u4(2).u2(again), 19, "b");
        m = new Maker(52);
        int one = m.number(1);
        m.open(0x421).u2(2);
        for (String name : new String[] {"f", "g"}) {
            m.member("f", 8, name, "I").u2(1).attribute("a", "ConstantValue", 2).u2(one);
        }
        judged("once of each field", m.u2(0, 0), 0, "a");
        m = new Maker(52).open(0x421).u2(0, 2);
        for (String name : new String[] {"f", "g"}) {
            add(add(m.member("m", 8, name, "()V").u2(2), "a", "Code"), "b", "Exceptions");
        }
        judged("once of each method", m.u2(0), 0, "a");
    }

    private static void otherNames() {
        CHECK.says("also all others)");
        for (String owner : OWNERS) {
            for (String name : new String[] {"", "Constantvalue", "ConstantValu", "ConstantValues", "code", "Codes", "Cod", "Exception",
                "exceptions", "SourceFil", "SourceFiles", "Deprecated", "Synthetic", "Signature", "StackMapTable", "LineNumberTable",
                "InnerClasses", "BootstrapMethods", "RuntimeVisibleAnnotations", "Module", "NestHost", "Record", "PermittedSubclasses"}) {
                judged(name + " of a " + owner, behind(upTo(owner).u2(1).attribute("a", name, 0), owner), 19, "a");
            }
        }
    }

    private static void lengthAheadOfNineteen() {
        CHECK.says("u4 a length; then, whether it may be there");
        for (String owner : OWNERS) {
            for (int bytes = 0; bytes <= 4; bytes++) {
                Maker m = upTo(owner).u2(1);
                m.mark("a").u2(m.text("Other")).u1(new int[bytes]);
                byte[] file = m.file();
                if (bytes < 4) {
                    CHECK.breaks(bytes + " bytes of a length", file, 1, file.length);
                } else {
                    judged("the length is there", m, 19, "a");
                }
            }
        }
        judged("19 ahead of what is in it", upTo("field").u2(1).attribute("a", "ConstantValue", 2), 19, "a");
        judged("19 ahead of where it ends", upTo("class").u2(1).attribute("a", "Code", -1), 19, "a");
    }

    private static void endsJustThere() {
        CHECK.says("then what is in it; that ends just there (18, at the u4)");
        for (int more : new int[] {-13, -2, -1, 0, 1, 2, 256, 65536, 0x01000000, 0x80000000, Integer.MAX_VALUE}) {
            Maker m = upTo("STATIC field").u2(1).attribute("a", "ConstantValue", 2 + more).u2(1).u2(0, 0);
            judged("ConstantValue, " + more, m, more == 0 ? 0 : 18, "a.length");
            m = upTo("method").u2(1).attribute("a", "Code", 13 + more).u2(0, 0).u4(1).u1(RETURN).u2(0, 0).u2(0);
            judged("Code, " + more, m, more == 0 ? 0 : 18, "a.length");
            m = upTo("ABSTRACT method").u2(1).attribute("a", "Exceptions", 4 + more);
            m.u2(1).u2(m.classOf("X")).u2(0);
            judged("Exceptions, " + more, m, more == 0 ? 0 : 18, "a.length");
            m = upTo("class").u2(1).attribute("a", "SourceFile", 2 + more);
            judged("SourceFile, " + more, m.u2(m.text("A")), more == 0 ? 0 : 18, "a.length");
        }
        Maker m = upTo("class").u2(1).attribute("a", "SourceFile", 3);
        judged("with the byte that it says", m.u2(m.text("A")).u1(0), 18, "a.length");
        m = upTo("STATIC field").u2(1).attribute("a", "ConstantValue", 9).mark("value").u2(0);
        judged("what is in it ahead of where it ends", m, 8, "value");
        byte[] file = upTo("STATIC field").u2(1).attribute("a", "ConstantValue", 9).file();
        CHECK.breaks("what is not there ahead of where it ends", file, 1, file.length);
    }

    private static int entryOf(Maker m, int kind) {
        switch (kind) {
            case 1:
                return m.text("x");
            case 3:
                return m.number(7);
            case 5:
                return m.longNumber(7);
            case 6:
                return m.longNumber(7) + 1;
            case 7:
                return m.classOf("x");
            case 8:
                return m.string("x");
            case 9:
                return m.field("x", "x", "I");
            case 10:
                return m.method("x", "x", "()V");
            case 11:
                return m.outer("x", "x", "()V");
            case 12:
                return m.named("x", "I");
            default:
                return kind;
        }
    }

    private static void constantOfStatic() {
        CHECK.says("of a STATIC field \"ConstantValue\"");
        for (int flags : new int[] {0, 1, 2, 4, 0x10, 0x80, 8, 9, 10, 12, 0x18, 0x88, 0x9C}) {
            Maker m = new Maker(52);
            int k = m.number(5);
            m.open(0x21).u2(1).member("f", flags, "f", "I").u2(1).attribute("a", "ConstantValue", 2).u2(k).u2(0, 0);
            judged("of a field with FLAGS " + flags, m, (flags & 8) != 0 ? 0 : 19, "a");
        }
    }

    private static void constantKinds() {
        CHECK.says("u2 (8) an INT for B C I S Z, a LONG for J, a STRING for Ljava/lang/String; (8 for other descriptors).");
        String text = "Ljava/lang/String;";
        String[] types = {"B", "C", "I", "S", "Z", "J", text, "[I", "[J", "Ljava/lang/Object;", "LI;", "LJ;", "[" + text,
            "Ljava/lang/Strin;", "Ljava/lang/Strings;", "Ljava/lang/string;"};
        for (String type : types) {
            for (int kind : new int[] {1, 3, 5, 6, 7, 8, 9, 10, 11, 12, 0, 299, 300, 0x8001, 0xFFFF}) {
                Maker m = new Maker(52);
                int k = entryOf(m, kind);
                m.open(0x21).u2(1).member("f", 8, "f", type).u2(1).attribute("c", "ConstantValue", 2);
                m.mark("value").u2(k).u2(0, 0);
                int due = type.equals("J") ? 5 : type.equals(text) ? 8 : type.length() == 1 ? 3 : -1;
                judged("constant of " + type + ", KIND " + kind, m, kind == due ? 0 : 8, "value");
            }
        }
    }

    private static void codeMustBeThere() {
        CHECK.says("Of a method that is not ABSTRACT \"Code\", which must be there (20, at the method's FLAGS)");
        for (int flags : new int[] {0, 1, 2, 4, 8, 0x10, 0x400, 0x401, 0x404}) {
            boolean isAbstract = (flags & 0x400) != 0;
            Maker m = new Maker(52).open(0x421).u2(0, 1).member("m", flags, "m", "()V").u2(0).u2(0);
            judged("no Code, FLAGS " + flags, m, isAbstract ? 0 : 20, "m");
            m = add(new Maker(52).open(0x421).u2(0, 1).member("m", flags, "m", "()V").u2(1), "e", "Exceptions").u2(0);
            judged("Exceptions and no Code, FLAGS " + flags, m, isAbstract ? 0 : 20, "m");
            m = new Maker(52).open(0x421).u2(0, 1).member("m", flags, "m", "()V").u2(1).code("c", 0, 1, RETURN).u2(0);
            judged("Code, FLAGS " + flags, m, isAbstract ? 19 : 0, "c");
        }
        Maker m = new Maker(52).open(0x421).u2(0, 2).member("a", 8, "a", "()V").u2(1).code("c", 0, 0, RETURN);
        judged("the second has no Code", m.member("b", 8, "b", "()V").u2(0).u2(0), 20, "b");
        m = new Maker(52).open(0x421).u2(0, 2).member("a", 8, "a", "()V").u2(0).mark("b").u2(0xFFFF);
        judged("no Code ahead of the next method", m, 20, "a");
        m = upTo("method").u2(1).attribute("a", "Other", 0).u2(0);
        judged("another ATTRIBUTE ahead of no Code", m, 19, "a");
        m = upTo("method").u2(1).attribute("a", "Exceptions", 3).u2(0).u2(0);
        judged("where one ends ahead of no Code", m, 18, "a.length");
    }

    private static void exceptions() {
        CHECK.says("of all methods \"Exceptions\": u2 how many, each u2 a CLASS (8)");
        for (int n : new int[] {0, 1, 2, 60, 300, 1000}) {
            Maker m = upTo("ABSTRACT method").u2(1).attribute("e", "Exceptions", 2 + 2 * n).u2(n);
            for (int i = 0; i < n; i++) {
                m.u2(m.classOf("X"));
            }
            CodeGate gate = Check.fed(m.u2(0).file());
            CHECK.due(n + " classes: judge()", gate.judge(), 0);
            CHECK.due(n + " classes: method(0, 5)", gate.method(0, 5), n);
        }
        Maker m = upTo("ABSTRACT method").u2(1).attribute("e", "Exceptions", 8);
        m.u2(3).u2(m.classOf("X")).u2(m.classOf("X")).u2(m.classOf("[I")).u2(0);
        judged("twice, and an array", m, 0, "e");
        for (int kind : new int[] {0, 1, 3, 5, 6, 8, 9, 10, 11, 12, 299, 300, 0x8002, 0xFFFF}) {
            m = upTo("ABSTRACT method").u2(1).attribute("e", "Exceptions", 6);
            m.u2(2).u2(m.classOf("X")).mark("second").u2(entryOf(m, kind)).u2(0);
            judged("Exceptions of KIND " + kind, m, 8, "second");
        }
        byte[] file = upTo("ABSTRACT method").u2(1).attribute("e", "Exceptions", 2).u2(0xFFFF).file();
        CHECK.breaks("65535 classes, and nothing comes", file, 1, file.length);
    }

    private static void sourceFile() {
        CHECK.says("Of the class \"SourceFile\": u2 a TEXT (8).");
        for (String any : new String[] {"A.java", "", "any / text"}) {
            Maker m = upTo("class").u2(1).attribute("s", "SourceFile", 2);
            judged("SourceFile " + any, m.u2(m.text(any)), 0, "s");
        }
        for (int kind : new int[] {0, 3, 5, 6, 7, 8, 9, 10, 11, 12, 299, 300, 0x8002, 0xFFFF}) {
            Maker m = upTo("class").u2(1).attribute("s", "SourceFile", 2);
            judged("SourceFile to KIND " + kind, m.mark("to").u2(entryOf(m, kind)), 8, "to");
        }
    }
}
