import java.util.Arrays;

/** Promises 6 and 7 on CODE: RULES 1, 8, 15, 19, 21 to 28. */
public final class CodeTest {
    private static final int NOP = 0, RETURN = 177, GOTO = 167, WIDE = 196;
    private static final Check CHECK = new Check();

    // The entries of the files here, by their numbers.
    private static int text, number, longNumber, string, type, array, field, method, init, outer, named;

    public static void main(String[] args) {
        sizes();
        leastLocals();
        codes();
        notAllThere();
        locals();
        wide();
        constants();
        members();
        types();
        interfaceCalls();
        newArrays();
        tables();
        lookups();
        aims();
        last();
        rows();
        CHECK.done();
    }

    /** A class with entries of each KIND, up to the ATTRIBUTES of a STATIC method ()V. */
    private static Maker start(int version) {
        Maker m = new Maker(version);
        text = m.text("t");
        number = m.number(7);
        longNumber = m.longNumber(7);
        string = m.string("s");
        type = m.classOf("T");
        array = m.classOf("[[[I");
        field = m.field("T", "f", "I");
        method = m.method("T", "m", "(IJ)I");
        init = m.method("T", "<init>", "()V");
        outer = m.outer("T", "o", "(JI)V");
        named = m.named("n", "I");
        return m.open(0x21).u2(0, 1).member("m", 8, "m", "()V").u2(1);
    }

    private static Maker coded(int version, int locals, int... code) {
        return start(version).code("c", 9, locals, code).u2(0);
    }

    private static void passes(String what, int... code) {
        CHECK.passes(what + " " + Arrays.toString(code), coded(52, 4, code).file());
    }

    private static void breaks(String what, int rule, int pc, int... code) {
        Maker m = coded(52, 4, code);
        CHECK.breaks(what + " " + Arrays.toString(code), m.file(), rule, m.place("c.code") + pc);
    }

    private static void judged(String what, boolean right, int rule, int... code) {
        if (right) {
            passes(what, code);
        } else {
            breaks(what, rule, 0, code);
        }
    }

    private static void sizes() {
        for (int units : new int[] {0, 255, 256, 65535}) {
            Maker m = start(52).code("c", units, 0, RETURN).u2(0);
            if (units <= 255) {
                CHECK.passes("STACK " + units, m.file());
            } else {
                CHECK.breaks("STACK " + units, m.file(), 15, m.place("c.stack"));
            }
            m = start(52).code("c", 0, units, RETURN).u2(0);
            if (units <= 255) {
                CHECK.passes("LOCALS " + units, m.file());
            } else {
                CHECK.breaks("LOCALS " + units, m.file(), 15, m.place("c.locals"));
            }
        }
        int[] most = new int[2001];
        most[1999] = RETURN;
        most[2000] = RETURN;
        passes("2000 bytes", Arrays.copyOf(most, 2000));
        Maker m = coded(52, 0, most);
        CHECK.breaks("2001 bytes", m.file(), 15, m.place("c.size"));
        m = coded(52, 0);
        CHECK.breaks("no bytes", m.file(), 15, m.place("c.size"));
        m = start(52).attribute("c", "Code", 13).u2(0, 0).mark("size").u4(-1).u1(RETURN);
        CHECK.breaks("FFFFFFFF bytes", m.file(), 15, m.place("size"));
        byte[] file = start(52).attribute("c", "Code", 13).u2(0, 0).u4(5).u1(255, 255, 255, 255).file();
        CHECK.breaks("bytes that are not in the FILE", file, 1, file.length);
    }

    private static void leastLocals() {
        leastLocals(8, "()V", 0);
        leastLocals(0, "()V", 1);
        leastLocals(8, "(IJ[JLx;Z)V", 6);
        leastLocals(1, "(IJ[JLx;Z)V", 7);
        leastLocals(8, "(" + "J".repeat(125) + ")V", 250);
        leastLocals(0, "(" + "J".repeat(125) + ")V", 251);
    }

    private static void leastLocals(int flags, String descriptor, int least) {
        for (int locals = Math.max(0, least - 1); locals <= least + 1; locals++) {
            Maker m = new Maker(52).open(0x21).u2(0, 1).member("m", flags, "m", descriptor).u2(1);
            m.code("c", 0, locals, RETURN).u2(0);
            if (locals >= least) {
                CHECK.passes(descriptor + " with " + locals, m.file());
            } else {
                CHECK.breaks(descriptor + " with " + locals, m.file(), 21, m.place("c.locals"));
            }
        }
    }

    /** Which codes there are: the ranges of float, double, and the rest that is refused. */
    private static void codes() {
        int[][] refused = {{11, 15}, {23, 24}, {34, 41}, {48, 49}, {56, 57}, {67, 74}, {81, 82}, {98, 99}, {102, 103},
            {106, 107}, {110, 111}, {114, 115}, {118, 119}, {134, 135}, {137, 144}, {149, 152}, {168, 169}, {174, 175},
            {186, 186}, {194, 195}, {201, 255}};
        boolean[] isRefused = new boolean[256];
        for (int[] range : refused) {
            Arrays.fill(isRefused, range[0], range[1] + 1, true);
        }
        for (int op = 0; op < 256; op++) {
            if (isRefused[op]) {
                breaks("code", 22, 1, NOP, op, RETURN);
                breaks("code at the end", 22, 1, NOP, op);
                Maker m = coded(52, 0, NOP, WIDE, op, 0, 0, RETURN);
                CHECK.breaks("behind wide " + op, m.file(), 22, m.place("c.code") + 1);
            } else {
                CodeGate gate = Check.fed(coded(52, 4, NOP, op, 0, 0, 0, 0, 0, 0, RETURN).file());
                gate.judge();
                CHECK.due("code " + op + " is not refused", gate.rule() == 22 ? 1 : 0, op == WIDE ? 1 : 0);
            }
        }
    }

    private static void notAllThere() {
        start(52);
        int[][] whole = {{16, 0}, {17, 0, 0}, {18, number}, {19, 0, number}, {20, 0, longNumber}, {21, 0}, {22, 0}, {25, 0},
            {54, 0}, {55, 0}, {58, 0}, {132, 0, 0}, {153, 0, 0}, {166, 0, 0}, {GOTO, 0, 0}, {178, 0, field}, {179, 0, field},
            {180, 0, field}, {181, 0, field}, {182, 0, method}, {183, 0, method}, {184, 0, method}, {185, 0, outer, 4, 0},
            {187, 0, type}, {188, 4}, {189, 0, type}, {192, 0, type}, {193, 0, type}, {197, 0, array, 1}, {198, 0, 0},
            {199, 0, 0}, {200, 0, 0, 0, 0}, {WIDE, 21, 0, 0}, {WIDE, 132, 0, 0, 0, 0},
            {170, 0, 0, 0, 0, 0, 0, 0, 0, 0, 0, 0, 0, 0, 0, 0, 0, 0, 0, 0},
            {171, 0, 0, 0, 0, 0, 0, 0, 0, 0, 0, 1, 0, 0, 0, 5, 0, 0, 0, 0}};
        for (int[] code : whole) {
            int[] closed = Arrays.copyOf(code, code.length + 1);
            closed[code.length] = RETURN;
            passes("whole", closed);
            for (int n = 1; n < code.length; n++) {
                breaks("not all there", 25, 0, Arrays.copyOf(code, n));
            }
        }
        breaks("not all there, whatever is in it", 25, 0, 185, 9, 9, 9);
        breaks("not all there, whatever is in it", 25, 0, WIDE, 21, 9);
        breaks("not all there ahead of where it goes", 25, 3, GOTO, 9, 9, GOTO, 0);
    }

    private static void locals() {
        int[] ones = {21, 25, 54, 58};
        int[] twos = {22, 55};
        for (int n = 0; n < 6; n++) {
            for (int op : ones) {
                judged("local", n < 4, 23, op, n, RETURN);
            }
            for (int op : twos) {
                judged("long local", n < 3, 23, op, n, RETURN);
            }
            judged("iinc", n < 4, 23, 132, n, 255, RETURN);
        }
        for (int locals = 0; locals < 6; locals++) {
            for (int n = 0; n < 4; n++) {
                for (int op : new int[] {26, 30, 42, 59, 63, 75}) {
                    int need = n + (op == 30 || op == 63 ? 2 : 1);
                    Maker m = coded(52, locals, NOP, op + n, RETURN);
                    String what = "code " + (op + n) + " with LOCALS " + locals;
                    if (need <= locals) {
                        CHECK.passes(what, m.file());
                    } else {
                        CHECK.breaks(what, m.file(), 23, m.place("c.code") + 1);
                    }
                }
            }
        }
    }

    private static void wide() {
        for (int n : new int[] {0, 3, 4, 256, 65535}) {
            for (int op : new int[] {21, 25, 54, 58}) {
                judged("wide", n < 4, 23, WIDE, op, n >> 8, n & 255, RETURN);
            }
            judged("wide iinc", n < 4, 23, WIDE, 132, n >> 8, n & 255, 1, 1, RETURN);
        }
        for (int n : new int[] {0, 2, 3, 65535}) {
            for (int op : new int[] {22, 55}) {
                judged("wide", n < 3, 23, WIDE, op, n >> 8, n & 255, RETURN);
            }
        }
        for (int op : new int[] {NOP, 26, 169, 23, WIDE, RETURN, 16, 255}) {
            breaks("behind wide", 22, 0, WIDE, op, 0, 0, 0, 0, RETURN);
            breaks("behind wide", 22, 0, WIDE, op);
        }
    }

    private static void constants() {
        start(52);
        int[] all = {0, text, number, longNumber, longNumber + 1, string, type, array, field, method, outer, named, 255};
        for (int k : all) {
            boolean right = k == number || k == string || k == type || k == array;
            judged("ldc", right, 8, 18, k, RETURN);
            judged("ldc_w", right, 8, 19, 0, k, RETURN);
            judged("ldc2_w", k == longNumber, 8, 20, 0, k, RETURN);
        }
        breaks("ldc_w", 8, 0, 19, 255, number, RETURN);
    }

    private static void members() {
        start(52);
        int[] all = {0, text, number, longNumber, longNumber + 1, string, type, field, method, outer, named, 255};
        for (int k : all) {
            for (int op = 178; op <= 181; op++) {
                judged("field", k == field, 8, op, 0, k, RETURN);
            }
            judged("invokevirtual", k == method, 8, 182, 0, k, RETURN);
            judged("invokespecial", k == method || k == outer, 8, 183, 0, k, RETURN);
            judged("invokestatic", k == method || k == outer, 8, 184, 0, k, RETURN);
        }
        for (int version : new int[] {45, 51, 52, 61}) {
            for (int op : new int[] {183, 184}) {
                Maker m = coded(version, 0, op, 0, outer, RETURN);
                if (version >= 52) {
                    CHECK.passes("OUTER from version " + version, m.file());
                } else {
                    CHECK.breaks("OUTER from version " + version, m.file(), 8, m.place("c.code"));
                }
            }
        }
        breaks("<init> by invokevirtual", 24, 0, 182, 0, init, RETURN);
        passes("<init> by invokespecial", 183, 0, init, RETURN);
        breaks("<init> by invokestatic", 24, 0, 184, 0, init, RETURN);
    }

    private static void types() {
        start(52);
        int[] all = {0, text, number, longNumber, longNumber + 1, string, type, field, method, outer, named, 255};
        for (int k : all) {
            for (int op : new int[] {187, 189, 192, 193}) {
                judged("type", k == type, 8, op, 0, k, RETURN);
            }
            judged("multianewarray", false, k == type ? 24 : 8, 197, 0, k, 1, RETURN);
        }
        breaks("new of an array", 24, 0, 187, 0, array, RETURN);
        for (int op : new int[] {189, 192, 193}) {
            passes("an array", op, 0, array, RETURN);
        }
        for (int n = 0; n < 6; n++) {
            judged("dimensions", n >= 1 && n <= 3, 24, 197, 0, array, n, RETURN);
        }
        breaks("dimensions", 24, 0, 197, 0, array, 255, RETURN);
    }

    private static void interfaceCalls() {
        start(52);
        for (int k : new int[] {0, method, init, outer, field, longNumber + 1}) {
            judged("invokeinterface", k == outer, 8, 185, 0, k, 4, 0, RETURN);
        }
        for (int n : new int[] {0, 3, 4, 5, 255}) {
            judged("invokeinterface", n == 4, 24, 185, 0, outer, n, 0, RETURN);
        }
        breaks("invokeinterface", 24, 0, 185, 0, outer, 4, 1, RETURN);
        Maker m = new Maker(52);
        int k = m.outer("T", "o", "(" + "I".repeat(250) + ")V");
        m.open(0x21).u2(0, 1).member("m", 8, "m", "()V").u2(1).code("c", 0, 0, 185, 0, k, 251, 0, RETURN).u2(0);
        CHECK.passes("250 SLOTS", m.file());
    }

    private static void newArrays() {
        for (int kind = 0; kind < 256; kind++) {
            judged("newarray", kind == 4 || kind == 5 || kind >= 8 && kind <= 11, 24, 188, kind, RETURN);
        }
    }

    /** A switch at pc, behind that many nops, and a return behind it; the numbers are ints. */
    private static int[] switchCode(int op, int pc, int... numbers) {
        int at = (pc / 4 + 1) * 4;
        int[] code = new int[at + 4 * numbers.length + 1];
        code[pc] = op;
        for (int i = 0; i < numbers.length; i++) {
            for (int b = 0; b < 4; b++) {
                code[at + 4 * i + b] = numbers[i] >> (24 - 8 * b) & 255;
            }
        }
        code[code.length - 1] = RETURN;
        return code;
    }

    private static void tables() {
        for (int pc = 0; pc < 5; pc++) {
            passes("tableswitch", switchCode(170, pc, 0, 5, 7, 0, -pc, 0));
            for (int pad = pc + 1; pad % 4 != 0; pad++) {
                int[] code = switchCode(170, pc, 0, 5, 7, 0, 0, 0);
                code[pad] = 1;
                breaks("tableswitch's padding", 24, pc, code);
                breaks("padding ahead of the end", 24, pc, Arrays.copyOf(code, pad + 1));
                breaks("the end ahead of padding", 25, pc, Arrays.copyOf(code, pad));
            }
        }
        for (int op : new int[] {170, 171}) {
            Maker m = start(52).attribute("c", "Code", 13).u2(0, 0).u4(1).mark("code").u1(op).u1(255, 255, 255, 255);
            CHECK.breaks("padding behind the CODE is not looked at", m.file(), 25, m.place("code"));
        }
        breaks("low above high", 24, 1, switchCode(170, 1, 0, 6, 5, 0, 0));
        breaks("low far above high", 24, 1, switchCode(170, 1, 0, Integer.MAX_VALUE, Integer.MIN_VALUE, 0));
        breaks("all ways", 24, 1, switchCode(170, 1, 0, Integer.MIN_VALUE, Integer.MAX_VALUE));
        breaks("low above high ahead of the end", 24, 0, Arrays.copyOf(switchCode(170, 0, 0, 6, 5), 16));
        breaks("the end ahead of high", 25, 0, Arrays.copyOf(switchCode(170, 0, 0, 6, 5), 15));
        breaks("500 ways that are not there", 25, 0, switchCode(170, 0, 0, -1, 498, 0));
        breaks("501 ways", 24, 0, switchCode(170, 0, 0, -1, 499, 0));
        passes("one way at the far end", switchCode(170, 3, 0, Integer.MAX_VALUE, Integer.MAX_VALUE, 0));
        int[] numbers = new int[3 + 490];
        numbers[2] = 489;
        passes("490 ways", switchCode(170, 0, numbers));
        breaks("a way to no first byte", 26, 2, switchCode(170, 2, 0, 0, 1, -2, 1));
        breaks("default to no first byte", 26, 2, switchCode(170, 2, 3, 0, 1, -2, 0));
    }

    private static void lookups() {
        passes("no pairs", switchCode(171, 0, 0, 0));
        for (int pc = 0; pc < 5; pc++) {
            passes("lookupswitch", switchCode(171, pc, 0, 3, Integer.MIN_VALUE, 0, -1, -pc, Integer.MAX_VALUE, 0));
            for (int pad = pc + 1; pad % 4 != 0; pad++) {
                int[] code = switchCode(171, pc, 0, 0);
                code[pad] = 128;
                breaks("lookupswitch's padding", 24, pc, code);
            }
        }
        breaks("pairs below 0", 24, 0, switchCode(171, 0, 0, -1, 0, 0));
        breaks("251 pairs", 24, 0, switchCode(171, 0, 0, 251));
        breaks("250 pairs that are not there", 25, 0, switchCode(171, 0, 0, 250));
        breaks("a key twice", 24, 0, switchCode(171, 0, 0, 2, 5, 0, 5, 0));
        breaks("keys fall", 24, 0, switchCode(171, 0, 0, 2, 5, 0, -5, 0));
        breaks("keys rise by sign", 24, 0, switchCode(171, 0, 0, 2, 1, 0, 0x80000000, 0));
        breaks("a key ahead of its way", 24, 0, Arrays.copyOf(switchCode(171, 0, 0, 2, 5, 0, 5, 0), 24));
        breaks("the end ahead of a key", 25, 0, Arrays.copyOf(switchCode(171, 0, 0, 2, 5, 0, 5, 0), 23));
        breaks("the end ahead of a way", 25, 0, Arrays.copyOf(switchCode(171, 0, 0, 2, 5, 0, 6, 0), 27));
        int[] numbers = new int[2 + 2 * 247];
        numbers[1] = 247;
        for (int i = 0; i < 247; i++) {
            numbers[2 + 2 * i] = i;
        }
        passes("247 pairs", switchCode(171, 0, numbers));
        breaks("a way to no first byte", 26, 1, switchCode(171, 1, 0, 1, 9, 2));
        breaks("default to no first byte", 26, 1, switchCode(171, 1, -2, 1, 9, 0));
    }

    private static void aims() {
        for (int op = 153; op <= 199; op++) {
            if (op <= GOTO || op >= 198) {
                passes("to itself", NOP, op, 0, 0, RETURN);
                passes("back", NOP, op, 255, 255, RETURN);
                passes("ahead", NOP, op, 0, 3, RETURN);
                breaks("into itself", 26, 1, NOP, op, 0, 1, RETURN);
                breaks("to the end", 26, 1, NOP, op, 0, 4, RETURN);
                breaks("ahead of all", 26, 1, NOP, op, 255, 254, RETURN);
                breaks("far away", 26, 1, NOP, op, 127, 255, RETURN);
                breaks("far back", 26, 1, NOP, op, 128, 0, RETURN);
            }
        }
        passes("goto_w", NOP, 200, 0, 0, 0, 5, RETURN);
        passes("goto_w back", NOP, 200, 255, 255, 255, 255, RETURN);
        breaks("goto_w far away", 26, 1, NOP, 200, 127, 255, 255, 255, RETURN);
        breaks("goto_w far back", 26, 1, NOP, 200, 128, 0, 0, 0, RETURN);
        breaks("goto_w by 65541", 26, 1, NOP, 200, 0, 1, 0, 5, RETURN);
        breaks("the first by their places", 26, 3, GOTO, 0, 6, GOTO, 0, 1, GOTO, 0, 1);
        breaks("another RULE ahead of it", 22, 3, GOTO, 0, 1, 255);
        breaks("where it goes ahead of the last one", 26, 0, GOTO, 0, 1, NOP);
    }

    private static void last() {
        for (int op : new int[] {172, 173, 176, 177, 191}) {
            passes("last", op);
        }
        passes("last", GOTO, 0, 0);
        passes("last", 200, 0, 0, 0, 0);
        int[] table = switchCode(170, 3, 0, 0, 0, 0);
        passes("last", Arrays.copyOf(table, table.length - 1));
        int[] pairs = switchCode(171, 3, 0, 0);
        passes("last", Arrays.copyOf(pairs, pairs.length - 1));
        breaks("last", 27, 0, NOP);
        breaks("last", 27, 1, RETURN, NOP);
        breaks("last", 27, 1, NOP, 153, 0, 0);
        breaks("last", 27, 0, 16, RETURN);
        breaks("last", 27, 0, 199, 0, 0);
        breaks("last", 27, 0, WIDE, 21, 0, 0);
    }

    private static void rows() {
        // nop; goto 0; return
        row("a row", 0, 0, 4, 1, 0);
        row("to the end", 0, 1, 5, 0, type);
        row("an array is caught", 0, 1, 4, 4, array);
        row("from is to", 28, 1, 1, 0, 0);
        row("from above to", 28, 4, 1, 0, 0);
        row("from is no first byte", 28, 2, 4, 0, 0);
        row("to is no first byte", 28, 0, 3, 0, 0);
        row("to behind the end", 28, 0, 6, 0, 0);
        row("from is the end", 28, 5, 6, 0, 0);
        row("the handler is no first byte", 28, 0, 4, 3, 0);
        row("the handler is the end", 28, 0, 4, 5, 0);
        row("far away", 28, 0, 65535, 0, 0);
        row("28 ahead of 8", 28, 0, 4, 65535, text);
        row("no CLASS", 8, 0, 4, 1, text);
        row("the number behind a LONG", 8, 0, 4, 1, longNumber + 1);
        row("beyond the POOL", 8, 0, 4, 1, 65535);
        for (int n : new int[] {29, 30, 31, 65535}) {
            Maker m = start(52).attribute("c", "Code", 12 + 5 + 8 * n).u2(0, 0).u4(5).u1(NOP, GOTO, 255, 255, RETURN);
            m.mark("rows").u2(n);
            for (int i = 0; i < Math.min(n, 31); i++) {
                m.u2(0, 5, 4, 0);
            }
            m.u2(0, 0);
            if (n <= 30) {
                CHECK.passes(n + " rows", m.file());
            } else {
                CHECK.breaks(n + " rows", m.file(), 15, m.place("rows"));
            }
        }
        Maker m = start(52).attribute("c", "Code", 13).u2(0, 0).u4(1).u1(RETURN).u2(0).mark("in").u2(1).u2(0);
        CHECK.breaks("ATTRIBUTES in it", m.file(), 19, m.place("in"));
        byte[] file = start(52).attribute("c", "Code", 21).u2(0, 0).u4(1).u1(RETURN).u2(1, 9, 9, 9).file();
        CHECK.breaks("a row that is not all there", file, 1, file.length);
    }

    private static void row(String what, int rule, int from, int to, int handler, int caught) {
        Maker m = start(52).attribute("c", "Code", 33).u2(0, 0).u4(5).u1(NOP, GOTO, 255, 255, RETURN);
        m.u2(2, 0, 1, 0, 0).mark("row").u2(from, to, handler).mark("caught").u2(caught).u2(0, 0);
        if (rule == 0) {
            CHECK.passes(what, m.file());
        } else {
            CHECK.breaks(what, m.file(), rule, m.place(rule == 28 ? "row" : "caught"));
        }
    }
}
