import java.util.Arrays;
import java.util.Set;

/** CODE up to its INSTRUCTIONS' contents, sentence by sentence: RULES 1, 8, 15, 21 to 25. */
public final class CodeTest {
    private static final int NOP = 0, RETURN = 177, GOTO = 167, WIDE = 196;
    private static final Check CHECK = new Check();

    // The entries of the files here, by their numbers.
    private static int text, number, longNumber, string, type, array, field, method, init, outer, named;

    public static void main(String[] args) {
        stackAndLocals();
        leastLocals();
        howManyBytes();
        allInTheFile();
        asTheSpecificationHasThem();
        refusedCodes();
        wide();
        locals();
        longLocals();
        localsInTheCode();
        constants();
        fields();
        calls();
        interfaceKinds();
        types();
        newOfAnArray();
        initCalls();
        interfaceCalls();
        dimensions();
        newArrays();
        notAllThere();
        CHECK.done();
    }

    /** A class with entries of each KIND, up to the ATTRIBUTES of a STATIC method ()V. */
    private static Maker start(int version) {
        Maker m = new Maker(version);
        text = m.text("t");
        number = m.number(7);
        longNumber = m.longNumber(7);
        string = m.string("s");
        type = m.classOf("T");
        array = m.classOf("[[[I");
        field = m.field("T", "f", "I");
        method = m.method("T", "m", "(IJ)I");
        init = m.method("T", "<init>", "()V");
        outer = m.outer("T", "o", "(JI)V");
        named = m.named("n", "I");
        return m.open(0x21).u2(0, 1).member("m", 8, "m", "()V").u2(1);
    }

    private static int[] entries() {
        start(52);
        return new int[] {0, text, number, longNumber, longNumber + 1, string, type, array, field, method, init, outer, named, 255};
    }

    private static Maker coded(int version, int locals, int... code) {
        return start(version).code("c", 9, locals, code).u2(0);
    }

    private static void passes(String what, int... code) {
        CHECK.passes(what + " " + Arrays.toString(code), coded(52, 4, code).file());
    }

    private static void breaks(String what, int rule, int pc, int... code) {
        Maker m = coded(52, 4, code);
        CHECK.breaks(what + " " + Arrays.toString(code), m.file(), rule, m.place("c.code") + pc);
    }

    /** The INSTRUCTION alone, behind others, and ahead of one that is wrong itself. */
    private static void judged(String what, boolean right, int rule, int... code) {
        int[] closed = Arrays.copyOf(code, code.length + 1);
        closed[code.length] = RETURN;
        int[] later = new int[closed.length + 3];
        later[0] = 16;
        later[1] = 255;
        System.arraycopy(closed, 0, later, 3, closed.length);
        if (right) {
            passes(what, closed);
            passes(what, later);
        } else {
            breaks(what, rule, 0, closed);
            breaks(what, rule, 3, later);
            closed[code.length] = 255;
            breaks(what, rule, 0, closed);
        }
    }

    private static void stackAndLocals() {
        CHECK.says("CODE: u2 the STACK, u2 the LOCALS, both up to 255 (15)");
        for (int units : new int[] {0, 1, 254, 255, 256, 257, 0x7FFF, 0x8000, 0xFFFF}) {
            Maker m = start(52).code("c", units, 0, RETURN).u2(0);
            CHECK.judged("STACK " + units, m.file(), units <= 255 ? 0 : 15, m.place("c.stack"));
            m = start(52).code("c", 0, units, RETURN).u2(0);
            CHECK.judged("LOCALS " + units, m.file(), units <= 255 ? 0 : 15, m.place("c.locals"));
            m = start(52).code("c", units, units, RETURN).u2(0);
            CHECK.judged("both " + units, m.file(), units <= 255 ? 0 : 15, m.place("c.stack"));
        }
    }

    private static void leastLocals() {
        CHECK.says("LOCALS at least the SLOTS of the arguments, and one if it is not STATIC (21)");
        leastLocals(8, "()V", 0);
        leastLocals(0, "()V", 1);
        leastLocals(8, "()J", 0);
        leastLocals(8, "(I)V", 1);
        leastLocals(8, "(J)V", 2);
        leastLocals(1, "(J)V", 3);
        leastLocals(8, "([J)V", 1);
        leastLocals(8, "(IJ[JLx;Z)V", 6);
        leastLocals(1, "(IJ[JLx;Z)V", 7);
        leastLocals(8, "(" + "J".repeat(125) + ")V", 250);
        leastLocals(0x10, "(" + "I".repeat(250) + ")V", 251);
        Maker m = new Maker(52).open(0x21).u2(0, 1).member("m", 0, "m", "(J)V").u2(1).attribute("c", "Code", 99);
        m.u2(0).mark("locals").u2(2).u4(0);
        CHECK.breaks("21 ahead of how many bytes", m.file(), 21, m.place("locals"));
    }

    private static void leastLocals(int flags, String descriptor, int least) {
        for (int locals = Math.max(0, least - 2); locals <= least + 2; locals++) {
            Maker m = new Maker(52).open(0x21).u2(0, 1).member("m", flags, "m", descriptor).u2(1);
            m.code("c", 0, locals, RETURN).u2(0);
            CHECK.judged(descriptor + " with " + locals, m.file(), locals >= least ? 0 : 21, m.place("c.locals"));
        }
    }

    private static void howManyBytes() {
        CHECK.says("u4 how many bytes, 1 .. 2000 (15)");
        for (int n : new int[] {1, 2, 1999, 2000, 2001, 2002}) {
            int[] code = new int[n];
            code[n - 1] = RETURN;
            Maker m = coded(52, 0, code);
            CHECK.judged(n + " bytes", m.file(), n <= 2000 ? 0 : 15, m.place("c.size"));
        }
        Maker m = coded(52, 0);
        CHECK.breaks("no bytes", m.file(), 15, m.place("c.size"));
        for (int n : new int[] {0, 2001, 65536, 0x01000000, 0x80000000, 0x80000001, -1}) {
            m = start(52).attribute("c", "Code", 13).u2(0, 0).mark("size").u4(n);
            CHECK.breaks(n + " bytes, and none comes", m.file(), 15, m.place("size"));
        }
    }

    private static void allInTheFile() {
        CHECK.says("all of them in the FILE (else RULE 1)");
        for (int n : new int[] {1, 2, 5, 2000}) {
            for (int there : new int[] {0, 1, n - 1}) {
                if (there < n) {
                    int[] code = new int[there];
                    Arrays.fill(code, 255);
                    byte[] file = start(52).attribute("c", "Code", 13).u2(0, 0).u4(n).u1(code).file();
                    CHECK.breaks(there + " of " + n + " bytes", file, 1, file.length);
                }
            }
        }
        Maker m = start(52).attribute("c", "Code", 13).u2(0, 0).u4(2).mark("code").u1(255, 255);
        CHECK.breaks("all of them, and nothing behind", m.file(), 22, m.place("code"));
        byte[] file = start(52).attribute("c", "Code", 13).u2(0, 0).u4(1).u1(RETURN).file();
        CHECK.breaks("all of them, and no rows", file, 1, file.length);
    }

    /** What stands behind the code of each INSTRUCTION that is allowed, so that it passes at an even pc. */
    private static int[] behind(int op) {
        String name = SecondReading.NAMES[op];
        if (name.startsWith("if") || name.equals("goto")) {
            return new int[] {0, 0};
        }
        if (name.matches("[ila](load|store)") || name.equals("bipush")) {
            return new int[] {0};
        }
        switch (name) {
            case "iinc":
            case "sipush":
                return new int[] {0, 0};
            case "ldc":
                return new int[] {number};
            case "ldc_w":
                return new int[] {0, number};
            case "ldc2_w":
                return new int[] {0, longNumber};
            case "getstatic":
            case "putstatic":
            case "getfield":
            case "putfield":
                return new int[] {0, field};
            case "invokevirtual":
            case "invokespecial":
            case "invokestatic":
                return new int[] {0, method};
            case "invokeinterface":
                return new int[] {0, outer, 4, 0};
            case "new":
            case "anewarray":
            case "checkcast":
            case "instanceof":
                return new int[] {0, type};
            case "newarray":
                return new int[] {10};
            case "multianewarray":
                return new int[] {0, array, 3};
            case "goto_w":
                return new int[4];
            case "wide":
                return new int[] {132, 0, 0, 0, 0};
            case "tableswitch":
                return new int[3 + 16];
            case "lookupswitch":
                return new int[3 + 8];
            default:
                return new int[0];
        }
    }

    private static boolean isRefused(int op) {
        if (op >= SecondReading.NAMES.length) {
            return true;
        }
        String name = SecondReading.NAMES[op];
        if (name.matches("dup.*")) {
            return false;
        }
        return name.matches("[fd].*|.*2[fd]|jsr|ret|jsr_w|monitorenter|monitorexit|invokedynamic");
    }

    private static void asTheSpecificationHasThem() {
        CHECK.says("the INSTRUCTIONS one by one: as the specification has them");
        CHECK.due("how many there are", SecondReading.NAMES.length, 202);
        start(52);
        for (int op = 0; op < 202; op++) {
            if (!isRefused(op)) {
                int[] behind = behind(op);
                int[] code = new int[behind.length + 2];
                code[0] = op;
                System.arraycopy(behind, 0, code, 1, behind.length);
                code[code.length - 1] = RETURN;
                CodeGate gate = Check.fed(coded(52, 5, code).file());
                CHECK.due(SecondReading.NAMES[op] + ": judge()", gate.judge(), 0);
                CHECK.due(SecondReading.NAMES[op] + ": how many INSTRUCTIONS", gate.method(0, 4), 2);
            }
        }
    }

    private static void refusedCodes() {
        CHECK.says("but (22, at the INSTRUCTION): those on float or double (whose names begin with f or d, but dup and the five that "
            + "begin with dup; or end with 2f or 2d), jsr, ret, jsr_w, monitorenter, monitorexit, invokedynamic, and codes above C9");
        int[][] refused = {{11, 15}, {23, 24}, {34, 41}, {48, 49}, {56, 57}, {67, 74}, {81, 82}, {98, 99}, {102, 103},
            {106, 107}, {110, 111}, {114, 115}, {118, 119}, {134, 135}, {137, 138}, {139, 144}, {149, 152}, {168, 169}, {174, 175},
            {186, 186}, {194, 195}, {201, 255}};
        boolean[] isRefused = new boolean[256];
        for (int[] range : refused) {
            Arrays.fill(isRefused, range[0], range[1] + 1, true);
        }
        for (int op = 0; op < 256; op++) {
            CHECK.due("by name " + op, isRefused(op) ? 1 : 0, isRefused[op] ? 1 : 0);
            if (isRefused[op]) {
                breaks("at the beginning", 22, 0, op, 0, 0, 0, 0, RETURN);
                breaks("in the middle", 22, 1, NOP, op, RETURN);
                breaks("at the end", 22, 1, NOP, op);
                breaks("alone", 22, 0, op);
            }
        }
    }

    private static void wide() {
        CHECK.says("behind wide only iload, lload, aload, istore, lstore, astore, iinc (22, at wide).");
        Set<Integer> allowed = Set.of(21, 22, 25, 54, 55, 58, 132);
        for (int op = 0; op < 256; op++) {
            if (allowed.contains(op)) {
                int[] code = {NOP, WIDE, op, 0, 1, RETURN};
                passes("wide", op == 132 ? new int[] {WIDE, op, 0, 1, 255, 255, RETURN} : code);
                breaks("wide, and no number", 25, 1, NOP, WIDE, op);
            } else {
                breaks("behind wide", 22, 0, WIDE, op, 0, 0, 0, 0, RETURN);
                breaks("behind wide at the end", 22, 1, NOP, WIDE, op);
            }
        }
        breaks("nothing behind wide", 25, 0, WIDE);
        breaks("nothing behind wide", 25, 1, NOP, WIDE);
    }

    private static void local(int op, int locals, int n, boolean right) {
        int[] code = {NOP, op, n, RETURN};
        if (op == 132) {
            code = new int[] {NOP, op, n, 0xFF, RETURN};
        }
        Maker m = coded(52, locals, code);
        if (n < 256) {
            CHECK.judged(op + " of " + n + " with LOCALS " + locals, m.file(), right ? 0 : 23, m.place("c.code") + 1);
        }
        code = new int[] {NOP, WIDE, op, n >> 8, n & 255, RETURN};
        if (op == 132) {
            code = new int[] {NOP, WIDE, op, n >> 8, n & 255, 0xFF, 0xFF, RETURN};
        }
        m = coded(52, locals, code);
        CHECK.judged("wide " + op + " of " + n + " with LOCALS " + locals, m.file(), right ? 0 : 23, m.place("c.code") + 1);
    }

    private static void locals() {
        CHECK.says("23 a local beyond LOCALS");
        for (int op : new int[] {21, 25, 54, 58, 132}) {
            for (int locals : new int[] {0, 1, 2, 4, 254, 255}) {
                for (int n : new int[] {0, 1, 3, locals - 2, locals - 1, locals, locals + 1, 255, 256, 0x8000, 0xFFFF}) {
                    if (n >= 0) {
                        local(op, locals, n, n < locals);
                    }
                }
            }
        }
    }

    private static void longLocals() {
        CHECK.says("(of long ones the next one, too");
        for (int op : new int[] {22, 55}) {
            for (int locals : new int[] {0, 1, 2, 4, 254, 255}) {
                for (int n : new int[] {0, 1, 3, locals - 3, locals - 2, locals - 1, locals, locals + 1, 255, 256, 0x8000, 0xFFFF}) {
                    if (n >= 0) {
                        local(op, locals, n, n + 1 < locals);
                    }
                }
            }
        }
    }

    private static void localsInTheCode() {
        CHECK.says("also of those with the number in their code)");
        for (int locals : new int[] {0, 1, 2, 3, 4, 5, 255}) {
            for (int n = 0; n < 4; n++) {
                for (int op : new int[] {26, 30, 42, 59, 63, 75}) {
                    int need = n + (op == 30 || op == 63 ? 2 : 1);
                    Maker m = coded(52, locals, NOP, op + n, RETURN);
                    String what = "code " + (op + n) + " with LOCALS " + locals;
                    CHECK.judged(what, m.file(), need <= locals ? 0 : 23, m.place("c.code") + 1);
                }
            }
        }
    }

    private static void constants() {
        CHECK.says("8: ldc, ldc_w an INT, STRING or CLASS; ldc2_w a LONG");
        for (int k : entries()) {
            boolean right = k == number || k == string || k == type || k == array;
            judged("ldc", right, 8, 18, k);
            judged("ldc_w", right, 8, 19, 0, k);
            judged("ldc2_w", k == longNumber, 8, 20, 0, k);
        }
        judged("ldc_w", false, 8, 19, 255, number);
        judged("ldc_w", false, 8, 19, 128, number);
        judged("ldc2_w", false, 8, 20, 1, longNumber);
        Maker m = new Maker(52);
        for (int i = 0; i < 254; i++) {
            m.otherText("");
        }
        int low = m.number(1);
        int high = m.number(2);
        m.open(0x21).u2(0, 1).member("m", 8, "m", "()V").u2(1).code("c", 1, 0, 18, low, 19, high >> 8, high & 255, RETURN).u2(0);
        CHECK.due("the numbers", low * 1000 + high, 255256);
        CHECK.passes("ldc of 255, ldc_w of 256", m.file());
    }

    private static void fields() {
        CHECK.says("getstatic, putstatic, getfield, putfield a FIELD");
        for (int k : entries()) {
            for (int op = 178; op <= 181; op++) {
                judged("field", k == field, 8, op, 0, k);
            }
        }
        judged("field", false, 8, 178, 128, field);
    }

    private static void calls() {
        CHECK.says("invokevirtual a METHOD; invokespecial, invokestatic a METHOD, or from VERSION 52 on an OUTER");
        for (int k : entries()) {
            if (k != init) {
                judged("invokevirtual", k == method, 8, 182, 0, k);
                judged("invokespecial", k == method || k == outer, 8, 183, 0, k);
                judged("invokestatic", k == method || k == outer, 8, 184, 0, k);
            }
        }
        for (int version = 45; version <= 61; version++) {
            for (int op : new int[] {182, 183, 184}) {
                start(version);
                Maker m = coded(version, 0, NOP, op, 0, outer, RETURN);
                boolean right = version >= 52 && op != 182;
                CHECK.judged(op + " of an OUTER, VERSION " + version, m.file(), right ? 0 : 8, m.place("c.code") + 1);
                CHECK.passes(op + " of a METHOD, VERSION " + version, coded(version, 0, NOP, op, 0, method, RETURN).file());
            }
        }
    }

    private static void interfaceKinds() {
        CHECK.says("invokeinterface an OUTER");
        for (int k : entries()) {
            judged("invokeinterface", k == outer, 8, 185, 0, k, 4, 0);
        }
        judged("8 ahead of 24", false, 8, 185, 0, method, 9, 9);
        for (int version : new int[] {45, 51, 52, 61}) {
            CHECK.passes("VERSION " + version, coded(version, 0, 185, 0, outer, 4, 0, RETURN).file());
        }
    }

    private static void types() {
        CHECK.says("new, anewarray, checkcast, instanceof, multianewarray a CLASS.");
        for (int k : entries()) {
            for (int op : new int[] {189, 192, 193}) {
                judged("type", k == type || k == array, 8, op, 0, k);
            }
            if (k != array) {
                judged("new", k == type, 8, 187, 0, k);
            }
            if (k != type) {
                judged("multianewarray", k == array, 8, 197, 0, k, 1);
            }
        }
        judged("8 ahead of 24", false, 8, 197, 0, text, 0);
    }

    private static void newOfAnArray() {
        CHECK.says("Then 24: new an array's");
        judged("new of an array", false, 24, 187, 0, array);
        judged("new of a class", true, 0, 187, 0, type);
        Maker m = new Maker(52);
        int one = m.classOf("[LT;");
        m.open(0x21).u2(0, 1).member("m", 8, "m", "()V").u2(1).code("c", 1, 0, 187, 0, one, RETURN).u2(0);
        CHECK.breaks("new of [LT;", m.file(), 24, m.place("c.code"));
    }

    private static void initCalls() {
        CHECK.says("<init> but by invokespecial");
        judged("<init> by invokevirtual", false, 24, 182, 0, init);
        judged("<init> by invokespecial", true, 0, 183, 0, init);
        judged("<init> by invokestatic", false, 24, 184, 0, init);
    }

    private static void interfaceCalls() {
        CHECK.says("invokeinterface's third byte is not the SLOTS and one, the fourth not 0");
        start(52);
        for (int n = 0; n < 256; n++) {
            judged("third byte", n == 4, 24, 185, 0, outer, n, 0);
            judged("fourth byte", n == 0, 24, 185, 0, outer, 4, n);
        }
        String[] types = {"()V", "()J", "(I)V", "(J)V", "([J)V", "(" + "I".repeat(250) + ")V", "(" + "J".repeat(125) + ")J"};
        int[] slots = {0, 0, 1, 2, 1, 250, 250};
        for (int i = 0; i < types.length; i++) {
            for (int more = 0; more <= 2; more++) {
                Maker m = new Maker(52);
                int k = m.outer("T", "o", types[i]);
                m.open(0x21).u2(0, 1).member("m", 8, "m", "()V").u2(1).code("c", 0, 0, 185, 0, k, slots[i] + more, 0, RETURN).u2(0);
                CHECK.judged(types[i] + " with " + (slots[i] + more), m.file(), more == 1 ? 0 : 24, m.place("c.code"));
            }
        }
    }

    private static void dimensions() {
        CHECK.says("multianewarray with no dimension, or more than its CLASS has [");
        start(52);
        for (int n = 0; n < 256; n++) {
            judged("dimensions", n >= 1 && n <= 3, 24, 197, 0, array, n);
            judged("dimensions of no array", false, 24, 197, 0, type, n);
        }
        for (int have : new int[] {1, 8}) {
            for (int n = 0; n <= 9; n++) {
                Maker m = new Maker(52);
                int k = m.classOf("[".repeat(have) + "LT;");
                m.open(0x21).u2(0, 1).member("m", 8, "m", "()V").u2(1).code("c", 0, 0, 197, 0, k, n, RETURN).u2(0);
                CHECK.judged(n + " of " + have, m.file(), n >= 1 && n <= have ? 0 : 24, m.place("c.code"));
            }
        }
    }

    private static void newArrays() {
        CHECK.says("newarray of another kind than 4, 5, 8 .. 11");
        for (int kind = 0; kind < 256; kind++) {
            judged("newarray", kind == 4 || kind == 5 || kind >= 8 && kind <= 11, 24, 188, kind);
        }
    }

    private static void notAllThere() {
        CHECK.says("An INSTRUCTION that is not all there within the CODE: 25.");
        start(52);
        for (int op = 0; op < 202; op++) {
            if (!isRefused(op)) {
                int[] behind = behind(op);
                for (int n = 0; n < behind.length; n++) {
                    int[] code = new int[4 + 1 + n];
                    code[4] = op;
                    System.arraycopy(behind, 0, code, 5, n);
                    breaks(SecondReading.NAMES[op] + " with " + n, 25, 4, code);
                    // A number that is wrong all over does not matter either, but for what is behind wide.
                    if (op != WIDE && op != 170 && op != 171) {
                        Arrays.fill(code, 5, 5 + n, 255);
                        breaks(SecondReading.NAMES[op] + " with wrong " + n, 25, 4, code);
                    }
                }
            }
        }
        breaks("wide, with a wrong number that is not all there", 25, 0, WIDE, 21, 255);
        breaks("wide iinc without its last byte", 25, 0, WIDE, 132, 255, 255, 0);
        breaks("ahead of where it goes", 25, 3, GOTO, 9, 9, GOTO, 0);
    }
}
