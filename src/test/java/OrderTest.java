import java.util.ArrayList;
import java.util.Arrays;
import java.util.List;

/**
 * The order of the rules: one FILE that passes, and slips that can be made in it, in the order in which the document goes along
 * them. Of each two slips that are made at once, the first one is told.
 */
public final class OrderTest {
    private static final int GOTO = 167;
    private static final Check CHECK = new Check();

    /** Other bytes at a place, and what is told of them. */
    private static final class Slip {
        final String what;
        final int at;
        final byte[] bytes;
        final int rule;
        final int place;

        Slip(String what, int at, byte[] bytes, int rule, int place) {
            this.what = what;
            this.at = at;
            this.bytes = bytes;
            this.rule = rule;
            this.place = place;
        }

        byte[] made(byte[] file) {
            byte[] other = Arrays.copyOf(file, Math.max(file.length, at + bytes.length));
            System.arraycopy(bytes, 0, other, at, bytes.length);
            return other;
        }

        boolean apart(Slip other) {
            return at + bytes.length <= other.at || other.at + other.bytes.length <= at;
        }
    }

    private final Maker m = new Maker(52);
    private final List<Slip> slips = new ArrayList<>();
    private int length;

    public static void main(String[] args) {
        new OrderTest().all();
        CHECK.done();
    }

    private void all() {
        CHECK.says("It is gone along in this order; the first thing that is not so ends it: its RULE and PLACE.");
        writeFile();
        byte[] file = m.file();
        length = file.length;
        CHECK.passes("no slip", file);
        headAndPool();
        links();
        theClass();
        fields();
        methods();
        code();
        behindCode();
        for (int i = 0; i < slips.size(); i++) {
            Slip one = slips.get(i);
            told(one, one.what, one.made(file));
            for (int k = i + 1; k < slips.size(); k++) {
                Slip other = slips.get(k);
                if (one.apart(other)) {
                    told(one, one.what + ", and " + other.what, one.made(other.made(file)));
                }
            }
        }
    }

    private static void told(Slip one, String what, byte[] file) {
        CHECK.breaks(what, file, one.rule, one.rule == 1 ? file.length : one.place);
    }

    // Numbers of the POOL, which members at its beginning refer to ahead of them.
    private static final int FIELD = 1, METHOD = 2, OUTER = 3, INT = 4, LONG = 5, NAME = 7, CLASS = 8, STRING = 9, TYPE = 10;
    private static final int NAMED_FIELD = 11, NAMED_METHOD = 12, NAMED_OUTER = 13, VOID = 14, CALL = 15, FLOAT = 16;
    private static final int ARRAY = 17, ARRAY_NAME = 18, FLOATS = 19, PATH = 20, NOTHING = 21, INIT = 22;

    private void writeFile() {
        m.two(9, CLASS, NAMED_FIELD);
        m.two(10, CLASS, NAMED_METHOD);
        m.two(11, CLASS, NAMED_OUTER);
        m.number(7);
        m.longNumber(7);
        m.text("T");
        m.one(7, NAME);
        m.one(8, NAME);
        m.text("I");
        m.two(12, NAME, TYPE);
        m.two(12, NAME, VOID);
        m.two(12, NAME, CALL);
        m.text("()V");
        m.text("(J)J");
        m.text("F");
        m.one(7, ARRAY_NAME);
        m.text("[I");
        m.text("[D");
        m.text("a/b");
        m.text("/");
        CHECK.due("the last number that is told", m.text("<init>"), INIT);
        m.mark("flags").u2(0x420).mark("self").u2(m.classOf("A")).mark("above").u2(m.classOf("java/lang/Object"));
        m.mark("interfaces").u2(2).mark("i0").u2(m.classOf("I0")).mark("i1").u2(m.classOf("I1"));
        m.mark("fields").u2(2);
        m.member("f0", 8, "f", "I").u2(1).attribute("fa", "ConstantValue", 2).mark("value").u2(INT);
        m.member("f1", 0, "g", "I").u2(0);
        m.mark("methods").u2(3);
        m.member("m0", 8, "m", "(J)J").u2(2).attribute("c", "Code", 12 + 18 + 16);
        m.mark("stack").u2(4).mark("locals").u2(2).mark("size").u4(18);
        m.mark("code").u1(30, 16, 0, 18, INT, 178, 0, FIELD, 188, 10, 153, 0, 3, GOTO, 255, 243, 136, 173);
        m.mark("rows").u2(2).mark("r0").u2(0, 18, 17).mark("caught").u2(CLASS).mark("r1").u2(0, 1, 0, 0).mark("in").u2(0);
        m.attribute("e", "Exceptions", 4).u2(1).mark("thrown").u2(CLASS);
        m.member("m1", 0x400, "n", "(J)J").u2(0);
        m.member("m2", 0x400, "o", "()V").u2(0);
        m.u2(1).attribute("s", "SourceFile", 2).mark("source").u2(NAME);
    }

    private void slip(String what, int at, int rule, int place, int... bytes) {
        slips.add(new Slip(what, at, Maker.bytes(bytes), rule, place));
    }

    /** A u2 that is told where it stands. */
    private void u2(String what, int at, int value, int rule) {
        slip(what, at, rule, at, value >> 8, value);
    }

    private void u2(String mark, int value, int rule) {
        u2(mark + " " + value, m.place(mark), value, rule);
    }

    private void headAndPool() {
        slip("magic", 3, 2, 0, 0);
        u2("minor", 4, 1, 3);
        u2("VERSION", 6, 62, 3);
        u2("n", 8, 301, 4);
        slip("KIND of the first", m.place(1), 6, m.place(1), 255);
        slip("KIND of the second", m.place(2), 7, m.place(2), 20);
        slip("KIND of the third", m.place(3), 6, m.place(3), 2);
        slip("n, so that a LONG is n - 1", 8, 4, m.place(LONG), 0, LONG + 1);
        slip("a TEXT's first letter", m.place(NAME) + 3, 5, m.place(NAME) + 3, 128);
        slip("KIND of a STRING", m.place(STRING), 7, m.place(STRING), 4);
        slip("a TEXT that ends too early", m.place(TYPE) + 3, 5, m.place(TYPE) + 1, 0xC2);
        slip("a TEXT's last letter", m.place(VOID) + 5, 5, m.place(VOID) + 5, 0);
        slip("KIND of the last told", m.place(INIT), 6, m.place(INIT), 0);
    }

    private void links() {
        int at = m.place(CLASS) + 1;
        u2("CLASS to an INT", at, INT, 8);
        u2("CLASS to no name", at, NOTHING, 9);
        u2("CLASS to an array of D", at, FLOATS, 12);
        u2("STRING to a LONG", m.place(STRING) + 1, LONG, 8);
        at = m.place(NAMED_FIELD) + 1;
        u2("NAMED's name to none", at, 0, 8);
        u2("NAMED's name to a path", at, PATH, 9);
        u2("NAMED's descriptor to the number behind a LONG", at + 2, LONG + 1, 8);
        u2("NAMED's descriptor to none", at + 2, PATH, 11);
        u2("NAMED's descriptor to F", at + 2, FLOAT, 12);
        at = m.place(NAMED_OUTER) + 1;
        u2("the last NAMED's name", at, CLASS, 8);
        u2("the last NAMED's descriptor", at + 2, NOTHING, 11);
        u2("CLASS of an array to a STRING", m.place(ARRAY) + 1, STRING, 8);
        for (int k = FIELD; k <= OUTER; k++) {
            at = m.place(k) + 1;
            u2("member " + k + " to no CLASS", at, NAME, 8);
            u2("member " + k + " to no NAMED", at + 2, CLASS, 8);
            u2("member " + k + " to one that does not fit", at + 2, k == FIELD ? NAMED_METHOD : NAMED_FIELD, 10);
        }
    }

    private void theClass() {
        u2("flags", 0x430, 13);
        u2("self", NAME, 8);
        u2("self", ARRAY, 9);
        u2("above", 0, 8);
        u2("above", ARRAY, 9);
        u2("above", m.classOf("A"), 14);
        u2("interfaces", 21, 15);
        u2("i0", INT, 8);
        u2("i0", ARRAY, 9);
        u2("i1", STRING, 8);
        u2("i1", m.classOf("I0"), 16);
    }

    private void fields() {
        u2("fields", 61, 15);
        u2("f0", 0x28, 13);
        u2("f0.name", CLASS, 8);
        u2("f0.name", INIT, 9);
        u2("f0.type", CLASS, 8);
        u2("f0.type", VOID, 11);
        u2("f0.type", FLOATS, 12);
        u2("fa", INT, 8);
        u2("fa", NAME, 19);
        u2("value", LONG, 8);
        slip("fa's length", m.place("fa.length") + 3, 18, m.place("fa.length"), 3);
        u2("f1", 6, 13);
        u2("f1.name", PATH, 9);
        u2("f1.type", NAME, 11);
        slip("f1 like f0", m.place("f1.name"), 16, m.place("f1"), 0, m.text("f"));
    }

    private void methods() {
        u2("methods", 61, 15);
        u2("m0", 0x408, 13);
        u2("m0.name", 0, 8);
        u2("m0.name", NOTHING, 9);
        u2("m0.type", INT, 8);
        u2("m0.type", TYPE, 11);
        u2("m0's name is <init>", m.place("m0.name"), INIT, 17);
        u2("c", CLASS, 8);
        u2("c", NAME, 19);
    }

    private void inCode(int pc, int rule, int place, int... bytes) {
        slip("code at " + pc, m.place("code") + pc, rule, m.place("code") + place, bytes);
    }

    private void code() {
        u2("stack", 256, 15);
        u2("locals", 256, 15);
        u2("locals", 1, 21);
        slip("no bytes", m.place("size"), 15, m.place("size"), 0, 0, 0, 0);
        slip("more bytes than the FILE has", m.place("size") + 2, 1, length, 7, 208);
        inCode(0, 23, 0, 31);
        inCode(1, 22, 1, 11);
        inCode(4, 8, 3, LONG);
        inCode(7, 8, 5, METHOD);
        inCode(9, 24, 8, 6);
        inCode(17, 25, 17, 16);
        inCode(12, 26, 10, 4);
        inCode(15, 26, 13, 245);
        inCode(17, 27, 17, 87);
    }

    private void behindCode() {
        u2("rows", 31, 15);
        slip("a row's to", m.place("r0") + 2, 28, m.place("r0"), 0, 19);
        slip("a row's handler", m.place("r0") + 4, 28, m.place("r0"), 0, 2);
        u2("caught", NAME, 8);
        slip("the second row's from", m.place("r1"), 28, m.place("r1"), 0, 1);
        u2("in", 1, 19);
        slip("c's length", m.place("c.length"), 18, m.place("c.length"), 1);
        u2("e", m.text("Code"), 19);
        u2("thrown", NAME, 8);
        slip("e's length", m.place("e.length") + 3, 18, m.place("e.length"), 5);
        u2("m1", 0x410, 13);
        u2("m1.name", STRING, 8);
        u2("m1.type", 0, 8);
        slip("m1 like m0", m.place("m1.name"), 16, m.place("m1"), 0, m.text("m"));
        slip("m1 without Code", m.place("m1"), 20, m.place("m1"), 0, 1);
        u2("m2", 0xC00, 13);
        slip("m2 without Code", m.place("m2"), 20, m.place("m2"), 0, 0);
        u2("s", CLASS, 8);
        u2("s", NAME, 19);
        u2("source", CLASS, 8);
        slip("s's length", m.place("s.length") + 3, 18, m.place("s.length"), 0);
        slip("a byte behind", length, 29, length, 0);
    }
}
