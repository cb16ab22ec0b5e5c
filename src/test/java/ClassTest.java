import java.util.Arrays;
import java.util.stream.IntStream;

/** THE CLASS, FIELDS and METHODS, sentence by sentence: RULES 8, 9 and 11 to 17. */
public final class ClassTest {
    private static final int RETURN = 177;
    private static final int[] FLAGS = flags();
    private static final Check CHECK = new Check();

    public static void main(String[] args) {
        classFlags();
        classAndAbove();
        sameText();
        aboveInterface();
        interfaceCount();
        interfaces();
        fieldCount();
        fieldFlags();
        fieldNames();
        fieldTypes();
        fieldTwice();
        methodCount();
        methodFlags();
        methodNames();
        methodTypes();
        init();
        clinit();
        methodTwice();
        CHECK.done();
    }

    private static void judged(String what, Maker m, boolean right, int rule, String mark) {
        CHECK.judged(what, m.file(), right ? 0 : rule, m.place(mark));
    }

    /** All FLAGS of twelve bits, and those above with some of these. */
    private static int[] flags() {
        int[] some = {0, 1, 8, 9, 0x10, 0x18, 0x19, 0x20, 0x21, 0x80, 0x400, 0x401, 0x420, 0x421, 0x600, 0x601, 0xFFF};
        IntStream low = IntStream.range(0, 0x1000);
        return IntStream.concat(low, IntStream.range(1, 16).flatMap(high -> Arrays.stream(some).map(x -> high << 12 | x))).toArray();
    }

    private static void classFlags() {
        CHECK.says("u2 its FLAGS (13): of 1 PUBLIC, 10 FINAL, 20 SUPER, 200 INTERFACE, 400 ABSTRACT (hexadecimal) alone; "
            + "with INTERFACE ABSTRACT, neither FINAL nor SUPER; not FINAL and ABSTRACT.");
        for (int flags : FLAGS) {
            boolean known = (flags | 0x631) == 0x631;
            boolean isInterface = (flags & 0x200) != 0;
            boolean isFinal = (flags & 0x10) != 0;
            boolean isAbstract = (flags & 0x400) != 0;
            boolean right = known && !(isFinal && isAbstract);
            if (isInterface) {
                right = known && isAbstract && !isFinal && (flags & 0x20) == 0;
            }
            judged("class FLAGS " + flags, new Maker(52).open(flags).u2(0, 0, 0), right, 13, "flags");
        }
    }

    /** A class that has this itself and this one above. */
    private static Maker classOf(int flags, Maker m, int self, int above) {
        return m.u2(flags).mark("self").u2(self).mark("above").u2(above).u2(0, 0, 0, 0);
    }

    private static void classAndAbove() {
        CHECK.says("u2 itself, u2 the one above: CLASSES (8) that are no arrays (9)");
        for (int wrong : new int[] {0, 1, 5, 6, 300, 0x8002, 0xFFFF}) {
            Maker m = new Maker(52);
            m.classOf("A");
            m.classOf("java/lang/Object");
            judged("itself " + wrong, classOf(0x21, m, wrong, 4), false, 8, "self");
            m = new Maker(52);
            m.classOf("A");
            m.classOf("java/lang/Object");
            judged("above " + wrong, classOf(0x21, m, 2, wrong), false, 8, "above");
        }
        for (String array : new String[] {"[I", "[[[[[[[[J", "[LA;"}) {
            Maker m = new Maker(52);
            judged("itself " + array, classOf(0x21, m, m.classOf(array), m.classOf("B")), false, 9, "self");
            m = new Maker(52);
            judged("above " + array, classOf(0x21, m, m.classOf("A"), m.classOf(array)), false, 9, "above");
            m = new Maker(52);
            judged("both " + array, classOf(0x21, m, m.classOf(array), m.classOf(array)), false, 9, "self");
        }
        Maker m = new Maker(52);
        judged("another one above", classOf(0x21, m, m.classOf("A"), m.classOf("B")), true, 0, "above");
        m = new Maker(52);
        judged("names that only look like arrays", classOf(0x21, m, m.classOf("I"), m.classOf("LA")), true, 0, "above");
    }

    private static void sameText() {
        CHECK.says("not the same TEXT (14, at the second)");
        Maker m = new Maker(52);
        judged("the same CLASS", classOf(0x21, m, m.classOf("A"), m.classOf("A")), false, 14, "above");
        m = new Maker(52);
        int self = m.classOf("A");
        judged("another CLASS, one TEXT", classOf(0x21, m, self, m.raw(7, 0, m.text("A"))), false, 14, "above");
        m = new Maker(52);
        judged("another TEXT, alike", classOf(0x21, m, m.classOf("A/b"), m.one(7, m.otherText("A/b"))), false, 14, "above");
        for (String other : new String[] {"a", "A/A", "AA", "B", "A "}) {
            m = new Maker(52);
            judged("A and " + other, classOf(0x21, m, m.classOf("A"), m.classOf(other)), true, 0, "above");
        }
        m = new Maker(52);
        judged("of the same hash", classOf(0x21, m, m.classOf("Aa"), m.classOf("BB")), true, 0, "above");
    }

    private static void aboveInterface() {
        CHECK.says("that above of an INTERFACE is java/lang/Object (14)");
        for (String above : new String[] {"B", "java/lang/Objec", "java/lang/Object2", "java/lang/object", "Object", "Java/lang/Object"}) {
            Maker m = new Maker(52);
            judged("INTERFACE and " + above, classOf(0x600, m, m.classOf("A"), m.classOf(above)), false, 14, "above");
            m = new Maker(52);
            judged("class and " + above, classOf(0x420, m, m.classOf("A"), m.classOf(above)), true, 0, "above");
        }
        Maker m = new Maker(52);
        int object = m.classOf("java/lang/Object");
        judged("java/lang/Object itself", classOf(0x600, m, object, m.one(7, m.otherText("java/lang/Object"))), false, 14, "above");
        m = new Maker(52);
        judged("an INTERFACE", classOf(0x601, m, m.classOf("A"), m.one(7, m.otherText("java/lang/Object"))), true, 0, "above");
    }

    private static Maker headOnly(int flags) {
        Maker m = new Maker(52);
        return m.u2(flags).u2(m.classOf("A")).u2(m.classOf("java/lang/Object"));
    }

    private static void interfaceCount() {
        CHECK.says("u2 how many interfaces, up to 20 (15)");
        for (int n : new int[] {0, 1, 19, 20, 21, 22}) {
            Maker m = headOnly(0x21).mark("n").u2(n);
            for (int i = 0; i < n; i++) {
                m.u2(m.classOf("I" + i));
            }
            judged(n + " interfaces", m.u2(0, 0, 0), n <= 20, 15, "n");
        }
        for (int n : new int[] {21, 256, 0x8000, 0xFFFF}) {
            judged(n + " interfaces, and nothing comes", headOnly(0x21).mark("n").u2(n), false, 15, "n");
        }
        byte[] file = headOnly(0x21).u2(20).file();
        CHECK.breaks("20 interfaces, and nothing comes", file, 1, file.length);
    }

    private static void interfaces() {
        CHECK.says("each u2 a CLASS (8), no array (9), none twice by its TEXT (16)");
        for (int k = 0; k < 20; k++) {
            for (int rule : new int[] {8, 9, 16}) {
                Maker m = headOnly(0x601).u2(20);
                for (int i = 0; i < 20; i++) {
                    boolean here = i == k;
                    int right = m.classOf("I" + i);
                    int again = m.one(7, m.otherText("I" + (k + 19) % 20));
                    m.mark(here ? "here" : "there");
                    m.u2(!here ? right : rule == 8 ? m.text("I" + i) : rule == 9 ? m.classOf("[I") : again);
                }
                m.u2(0, 0, 0);
                if (rule == 16 && k == 0) {
                    // It is the last one that comes for the second time.
                    judged("the first and the last alike", m, false, 16, "there");
                } else {
                    judged(rule + " of interface " + k, m, false, rule, "here");
                }
            }
        }
        Maker m = headOnly(0x21).u2(2);
        m.u2(m.classOf("Aa")).mark("second").u2(m.classOf("BB")).u2(0, 0, 0);
        judged("of the same hash", m, true, 0, "second");
        for (String[] two : new String[][] {{"a", "aepdynmA"}, {"aepdynmA", "a"}, {"aepdynmA", "aepdzOmA"}, {"ab", "abc"}, {"abc", "ab"}}) {
            m = headOnly(0x21).u2(2);
            m.u2(m.classOf(two[0])).mark("second").u2(m.classOf(two[1])).u2(0, 0, 0);
            judged("of which one begins with the other", m, true, 0, "second");
        }
        m = headOnly(0x21).u2(2);
        judged("the class itself and that above", m.u2(m.classOf("A")).u2(m.classOf("java/lang/Object")).mark("n").u2(0, 0, 0), true, 0, "n");
        for (int wrong : new int[] {0, 3, 5, 0x8002, 0xFFFF}) {
            judged("interface " + wrong, headOnly(0x21).u2(1).mark("one").u2(wrong).u2(0, 0, 0), false, 8, "one");
        }
    }

    private static Maker withFields(int n, int there) {
        Maker m = new Maker(52).open(0x21).mark("n").u2(n);
        for (int i = 0; i < there; i++) {
            m.member("f", 0, "f" + i, "I").u2(0);
        }
        return m.u2(0, 0);
    }

    private static void fieldCount() {
        CHECK.says("FIELDS: u2 how many, up to 60 (15)");
        for (int n : new int[] {0, 1, 59, 60, 61, 62}) {
            judged(n + " fields", withFields(n, n), n <= 60, 15, "n");
        }
        for (int n : new int[] {61, 256, 0x8000, 0xFFFF}) {
            judged(n + " fields, and none comes", withFields(n, 0), false, 15, "n");
        }
        byte[] file = new Maker(52).open(0x21).u2(60).file();
        CHECK.breaks("60 fields, and nothing comes", file, 1, file.length);
    }

    private static void fieldFlags() {
        CHECK.says("each: u2 FLAGS (13): of 1 PUBLIC, 2 PRIVATE, 4 PROTECTED (one of these at most), 8 STATIC, 10 FINAL, "
            + "80 TRANSIENT alone; in an INTERFACE PUBLIC STATIC FINAL, just these.");
        for (int flags : FLAGS) {
            boolean right = (flags | 0x9F) == 0x9F && Integer.bitCount(flags & 7) <= 1;
            for (int classFlags : new int[] {0x21, 0x420}) {
                Maker m = new Maker(52).open(classFlags).u2(1).member("f", flags, "f", "I").u2(0, 0, 0);
                judged("field FLAGS " + flags, m, right, 13, "f");
            }
            Maker m = new Maker(52).open(0x600).u2(1).member("f", flags, "f", "I").u2(0, 0, 0);
            judged("field FLAGS of an INTERFACE " + flags, m, flags == 0x19, 13, "f");
        }
    }

    private static void fieldNames() {
        CHECK.says("(FIELDS) u2 a TEXT (8), a plain name (9).");
        for (int wrong : new int[] {0, 2, 300, 0x8001, 0xFFFF}) {
            Maker m = new Maker(52).open(0x21).u2(1, 0).mark("name").u2(wrong);
            judged("field's name " + wrong, m.u2(m.text("/")).u2(0, 0, 0), false, 8, "name");
        }
        for (String name : new String[] {"a", "(", "I", "init"}) {
            judged("field's name " + name, new Maker(52).open(0x21).u2(1).member("f", 0, name, "I").u2(0, 0, 0), true, 0, "f");
        }
        for (String name : new String[] {"<init>", "<clinit>", "a/b", "", "a.b", "a;", "[a", "a<", ">"}) {
            Maker m = new Maker(52).open(0x21).u2(1).member("f", 0, name, "F").u2(0, 0, 0);
            judged("field's name " + name, m, false, 9, "f.name");
        }
    }

    private static void fieldTypes() {
        CHECK.says("(FIELDS) u2 a TEXT (8), a field's descriptor (11, 12).");
        for (int wrong : new int[] {0, 2, 300, 0x8001, 0xFFFF}) {
            Maker m = new Maker(52).open(0x21).u2(1, 0).u2(1).mark("type").u2(wrong).u2(0, 0, 0);
            judged("field's descriptor " + wrong, m, false, 8, "type");
        }
        for (String type : new String[] {"B", "C", "I", "J", "S", "Z", "La;", "[[[[[[[[I", "F", "D", "[[D", "()V", "()I", "V", "", "La",
            "(F)V", "[[[[[[[[[F", "[[[[[[[[[I"}) {
            int rule = type.matches("F|D|\\[\\[D") ? 12 : type.matches("[BCIJSZ]|La;|\\[{8}I") ? 0 : 11;
            Maker m = new Maker(52).open(0x21).u2(1).member("f", 0, "f", type).u2(0, 0, 0);
            judged("field's descriptor " + type, m, rule == 0, rule, "f.type");
        }
    }

    private static void fieldTwice() {
        CHECK.says("No other has both alike, by TEXTS (16, at its FLAGS).");
        Maker m = new Maker(52).open(0x21).u2(3).member("a", 0, "f", "I").u2(0).member("b", 0, "f", "J").u2(0);
        judged("other descriptor, other name", m.member("c", 0, "g", "I").u2(0, 0, 0), true, 0, "c");
        m = new Maker(52).open(0x21).u2(2).member("a", 0, "f", "I").u2(0).member("b", 1, "f", "I").u2(9, 0, 0);
        judged("both alike, by numbers", m, false, 16, "b");
        m = new Maker(52).open(0x21).u2(3).member("a", 0, "f", "I").u2(0).member("b", 0, "f", "J").u2(0);
        m.mark("c").u2(1).u2(m.otherText("f")).u2(m.otherText("I")).u2(9, 0, 0);
        judged("both alike, by TEXTS", m, false, 16, "c");
        m = new Maker(52).open(0x21).u2(2).member("a", 0, "Aa", "I").u2(0).member("b", 0, "BB", "I").u2(0, 0, 0);
        judged("names of the same hash", m, true, 0, "b");
        for (int like : new int[] {0, 1, 30, 58}) {
            m = new Maker(52).open(0x21).u2(60);
            for (int i = 0; i < 59; i++) {
                m.member("f", 0, "f" + i, "I").u2(0);
            }
            judged("the last of 60 like " + like, m.member("last", 8, "f" + like, "I").u2(0, 0, 0), false, 16, "last");
        }
    }

    private static Maker withMethods(int n, int there) {
        Maker m = new Maker(52).open(0x421).u2(0).mark("n").u2(n);
        for (int i = 0; i < there; i++) {
            m.member("m", 0x400, "m" + i, "()V").u2(0);
        }
        return m.u2(0);
    }

    private static void methodCount() {
        CHECK.says("METHODS: u2 how many, up to 60 (15)");
        for (int n : new int[] {0, 1, 59, 60, 61, 62}) {
            judged(n + " methods", withMethods(n, n), n <= 60, 15, "n");
        }
        for (int n : new int[] {61, 256, 0x8000, 0xFFFF}) {
            judged(n + " methods, and none comes", withMethods(n, 0), false, 15, "n");
        }
        byte[] file = new Maker(52).open(0x21).u2(0, 60).file();
        CHECK.breaks("60 methods, and nothing comes", file, 1, file.length);
    }

    private static void methodFlags() {
        CHECK.says("each: u2 FLAGS (13): of 1, 2, 4 (one at most), 8, 10, 400 ABSTRACT alone; ABSTRACT with neither PRIVATE, STATIC "
            + "nor FINAL; in an INTERFACE just one of PUBLIC, PRIVATE, and not FINAL; in a class that is not ABSTRACT none is ABSTRACT.");
        for (int classFlags : new int[] {0x21, 0x421, 0x601}) {
            boolean isInterface = (classFlags & 0x200) != 0;
            for (int flags : FLAGS) {
                boolean isAbstract = (flags & 0x400) != 0;
                boolean right = (flags | 0x41F) == 0x41F && Integer.bitCount(flags & 7) <= 1;
                right &= !isAbstract || (flags & 0x1A) == 0 && (classFlags & 0x400) != 0;
                right &= !isInterface || Integer.bitCount(flags & 3) == 1 && (flags & 0x10) == 0;
                Maker m = new Maker(52).open(classFlags).u2(0, 1).member("m", flags, "m", "()V");
                if (isAbstract) {
                    m.u2(0, 0);
                } else {
                    m.u2(1).code("c", 0, 1, RETURN).u2(0);
                }
                judged("method FLAGS " + flags + " in " + classFlags, m, right, 13, "m");
            }
        }
    }

    private static void methodNames() {
        CHECK.says("u2 a TEXT (8): a plain name, or <init>, <clinit> (9).");
        for (int wrong : new int[] {0, 2, 300, 0x8001, 0xFFFF}) {
            Maker m = new Maker(52).open(0x21).u2(0, 1, 0).mark("name").u2(wrong);
            judged("method's name " + wrong, m.u2(m.text("/")).u2(0, 0), false, 8, "name");
        }
        for (String name : new String[] {"a", "(", "init", "clinit"}) {
            Maker m = new Maker(52).open(0x421).u2(0, 1).member("m", 0x400, name, "()V").u2(0, 0);
            judged("method's name " + name, m, true, 0, "m");
        }
        for (String name : new String[] {"<init", "<clinit", "<init>>", "a/b", "", "<any>", "a.b", "a;", "[a", "<", ">"}) {
            Maker m = new Maker(52).open(0x21).u2(0, 1).member("m", 0, name, "()F").u2(0, 0);
            judged("method's name " + name, m, false, 9, "m.name");
        }
    }

    private static void methodTypes() {
        CHECK.says("u2 a TEXT (8), a method's descriptor (11, 12)");
        for (int wrong : new int[] {0, 2, 300, 0x8001, 0xFFFF}) {
            Maker m = new Maker(52).open(0x421).u2(0, 1, 0x400).u2(1).mark("type").u2(wrong).u2(0, 0);
            judged("method's descriptor " + wrong, m, false, 8, "type");
        }
        for (String type : new String[] {"()V", "(IJ)[I", "(" + "I".repeat(250) + ")V", "(" + "J".repeat(125) + ")V", "I", "V", "", "()", "F",
            "(V)V", "(" + "I".repeat(251) + ")V", "()F", "(D)V", "([[F)V", "()V "}) {
            boolean floats = type.matches("\\(\\)F|\\(D\\)V|\\(\\[\\[F\\)V");
            boolean right = type.matches("\\(\\)V|\\(IJ\\)\\[I|\\((I{250}|J{125})\\)V");
            Maker m = new Maker(52).open(0x421).u2(0, 1).member("m", 0x400, "m", type).u2(0, 0);
            judged("method's descriptor " + type, m, right, floats ? 12 : 11, "m.type");
            if (!right) {
                m = new Maker(52).open(0x421).u2(0, 1).member("m", 0x400, "<init>", type).u2(0, 0);
                judged("<init>'s descriptor " + type, m, false, floats ? 12 : 11, "m.type");
            }
        }
    }

    private static void special(int classFlags, int flags, String name, String type, boolean right) {
        Maker m = new Maker(52).open(classFlags).u2(0, 1).member("m", flags, name, type);
        if ((flags & 0x400) == 0) {
            m.u2(1).code("c", 0, 9, RETURN).u2(0);
        } else {
            m.u2(0, 0);
        }
        judged(name + type + " " + flags, m, right, 17, "m.name");
    }

    private static void init() {
        CHECK.says("then 17, at the name: <init> in no INTERFACE, with V, not STATIC, FINAL or ABSTRACT");
        for (int flags : new int[] {0, 1, 2, 4}) {
            special(0x21, flags, "<init>", "()V", true);
            special(0x421, flags, "<init>", "(IJ)V", true);
            special(0x21, flags, "<init>", "()I", false);
            special(0x21, flags, "<init>", "(I)LV;", false);
            special(0x21, flags, "<init>", "()[J", false);
            special(0x21, flags | 8, "<init>", "()V", false);
            special(0x21, flags | 0x10, "<init>", "()V", false);
            special(0x21, flags | 0x18, "<init>", "()V", false);
        }
        special(0x421, 0x400, "<init>", "()V", false);
        special(0x421, 0x401, "<init>", "()V", false);
        special(0x601, 1, "<init>", "()V", false);
        special(0x601, 2, "<init>", "()V", false);
        special(0x601, 0x401, "<init>", "()V", false);
    }

    private static void clinit() {
        CHECK.says("<clinit> STATIC (and no other FLAG), ()V.");
        special(0x21, 8, "<clinit>", "()V", true);
        special(0x421, 8, "<clinit>", "()V", true);
        for (int flags : new int[] {0, 1, 2, 4, 0x10, 9, 10, 12, 0x18, 0x19}) {
            special(0x21, flags, "<clinit>", "()V", false);
        }
        special(0x421, 0x400, "<clinit>", "()V", false);
        for (String type : new String[] {"(I)V", "()I", "()LV;", "()[I", "(J)V"}) {
            special(0x21, 8, "<clinit>", type, false);
        }
        for (int flags : new int[] {9, 10, 1, 2, 0x401}) {
            special(0x601, flags, "<clinit>", "()V", false);
        }
        Maker m = new Maker(52).open(0x601).u2(0, 1).member("m", 8, "<clinit>", "()V").u2(1).code("c", 0, 0, RETURN).u2(0);
        judged("in an INTERFACE, by its FLAGS", m, false, 13, "m");
    }

    private static void methodTwice() {
        CHECK.says("None twice (16, at its FLAGS).");
        Maker m = new Maker(52).open(0x421).u2(0, 3).member("a", 0x400, "m", "()V").u2(0);
        m.member("b", 0x400, "m", "()I").u2(0).member("c", 0x400, "n", "()V").u2(0, 0);
        judged("other descriptor, other name", m, true, 0, "c");
        m = new Maker(52).open(0x421).u2(0, 2).member("a", 0x400, "m", "()V").u2(0).member("b", 0x401, "m", "()V").u2(9, 0);
        judged("twice by numbers", m, false, 16, "b");
        m = new Maker(52).open(0x421).u2(0, 2).member("a", 0x400, "m", "()V").u2(0);
        m.mark("b").u2(0x401).u2(m.otherText("m")).u2(m.otherText("()V")).u2(9, 0);
        judged("twice by TEXTS", m, false, 16, "b");
        m = new Maker(52).open(0x421).u2(1).member("a", 0, "m", "I").u2(0).u2(1).member("b", 0x400, "m", "()V").u2(0, 0);
        judged("a field and a method", m, true, 0, "b");
        m = new Maker(52).open(0x21).u2(0, 2).member("a", 0, "<init>", "()V").u2(1).code("c", 0, 1, RETURN);
        m.member("b", 0, "<init>", "(I)V").u2(1).code("d", 0, 2, RETURN).u2(0);
        judged("<init> with other arguments", m, true, 0, "b");
        m = new Maker(52).open(0x21).u2(0, 2).member("a", 8, "<clinit>", "()V").u2(1).code("c", 0, 0, RETURN);
        judged("<clinit> twice", m.member("b", 8, "<clinit>", "()V").u2(9), false, 16, "b");
        for (int like : new int[] {0, 1, 30, 58}) {
            m = new Maker(52).open(0x421).u2(0, 60);
            for (int i = 0; i < 59; i++) {
                m.member("m", 0x400, "m" + i, "()V").u2(0);
            }
            judged("the last of 60 like " + like, m.member("last", 0x404, "m" + like, "()V").u2(0, 0), false, 16, "last");
        }
    }
}
