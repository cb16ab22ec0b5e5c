import java.util.Arrays;

/** CODE from its switches on, sentence by sentence: RULES 8, 15, 19 and 24 to 28. */
public final class WaysTest {
    private static final int NOP = 0, RETURN = 177, GOTO = 167, WIDE = 196, GOTO_W = 200, TABLE = 170, PAIRS = 171;
    private static final int LEAST = Integer.MIN_VALUE, GREATEST = Integer.MAX_VALUE;
    private static final Check CHECK = new Check();

    private static int text, longNumber, type, array;

    public static void main(String[] args) {
        padding();
        paddingInTheFile();
        lowAndHigh();
        manyWays();
        manyPairs();
        keys();
        numberByNumber();
        aims();
        farAims();
        switchAims();
        aimsOfTwo();
        firstAim();
        mostAims();
        last();
        rowCount();
        rows();
        rowsOfAll();
        caught();
        noAttributes();
        CHECK.done();
    }

    /** A class up to the ATTRIBUTES of a STATIC method ()V. */
    private static Maker start() {
        Maker m = new Maker(52);
        text = m.text("t");
        longNumber = m.longNumber(7);
        type = m.classOf("T");
        array = m.classOf("[[[I");
        return m.open(0x21).u2(0, 1).member("m", 8, "m", "()V").u2(1);
    }

    private static void judged(String what, int rule, int pc, int... code) {
        Maker m = start().code("c", 9, 4, code).u2(0);
        CHECK.judged(what + " " + Arrays.toString(code), m.file(), rule, m.place("c.code") + pc);
    }

    private static void passes(String what, int... code) {
        judged(what, 0, 0, code);
    }

    /** A switch at pc, behind that many nops, and a return behind it; the numbers are ints. */
    private static int[] switchCode(int op, int pc, int... numbers) {
        int at = (pc / 4 + 1) * 4;
        int[] code = new int[at + 4 * numbers.length + 1];
        code[pc] = op;
        for (int i = 0; i < numbers.length; i++) {
            for (int b = 0; b < 4; b++) {
                code[at + 4 * i + b] = numbers[i] >> (24 - 8 * b) & 255;
            }
        }
        code[code.length - 1] = RETURN;
        return code;
    }

    private static void padding() {
        CHECK.says("tableswitch, lookupswitch with bytes other than 0 ahead of their numbers");
        for (int pc = 0; pc < 9; pc++) {
            int[] table = switchCode(TABLE, pc, 0, 5, 7, 0, -pc, 0);
            int[] pairs = switchCode(PAIRS, pc, 0, 2, 5, 0, 6, -pc);
            passes("tableswitch", table);
            passes("lookupswitch", pairs);
            for (int[] right : new int[][] {table, pairs}) {
                for (int pad = pc + 1; pad % 4 != 0; pad++) {
                    for (int value : new int[] {1, 128, 255}) {
                        int[] code = right.clone();
                        code[pad] = value;
                        judged("padding", 24, pc, code);
                        judged("padding ahead of the end", 24, pc, Arrays.copyOf(code, pad + 1));
                        judged("the end ahead of padding", 25, pc, Arrays.copyOf(code, pad));
                    }
                }
            }
        }
    }

    /** It is the CODE's first byte from which a switch is counted, wherever that is in the FILE. */
    private static void paddingInTheFile() {
        CHECK.says("as the specification has them (a switch's numbers begin at a multiple of four from the first byte of the CODE)");
        for (int more = 0; more < 4; more++) {
            for (int pc = 0; pc < 4; pc++) {
                Maker m = new Maker(52);
                m.otherText("x".repeat(more));
                m.open(0x21).u2(0, 1).member("m", 8, "m", "()V").u2(1).code("c", 1, 0, switchCode(TABLE, pc, 0, 0, 0, 0)).u2(0);
                CHECK.passes("a switch at " + pc + ", " + more + " bytes later", m.file());
            }
        }
        for (int op : new int[] {TABLE, PAIRS}) {
            Maker m = start().attribute("c", "Code", 13).u2(0, 0).u4(1).mark("code").u1(op).u1(255, 255, 255, 255);
            CHECK.breaks("padding behind the CODE is not looked at", m.file(), 25, m.place("code"));
        }
    }

    private static void lowAndHigh() {
        CHECK.says("low above high");
        for (int low : new int[] {LEAST, LEAST + 1, -1, 0, 1, 5, GREATEST - 1, GREATEST}) {
            passes("low is high", switchCode(TABLE, 0, 0, low, low, 0));
            if (low > LEAST) {
                judged("low is one above high", 24, 0, switchCode(TABLE, 0, 0, low, low - 1, 0));
                passes("low is one below high", switchCode(TABLE, 0, 0, low - 1, low, 0, 0));
            }
        }
        judged("low far above high", 24, 1, switchCode(TABLE, 1, 0, GREATEST, LEAST, 0));
        judged("low far above high", 24, 1, switchCode(TABLE, 1, 0, 0, LEAST, 0));
        judged("by sign", 24, 1, switchCode(TABLE, 1, 0, 1, -1, 0));
        passes("by sign", switchCode(TABLE, 1, 0, -1, 1, 0, 0, 0));
    }

    private static void manyWays() {
        CHECK.says("or more than 500 ways");
        for (int low : new int[] {LEAST, -499, -1, 0, 7, GREATEST - 500}) {
            judged("499 ways that are not there", 25, 0, switchCode(TABLE, 0, 0, low, low + 498, 0));
            judged("500 ways that are not there", 25, 0, switchCode(TABLE, 0, 0, low, low + 499, 0));
            judged("501 ways that are not there", 24, 0, switchCode(TABLE, 0, 0, low, low + 500, 0));
        }
        judged("all ways", 24, 1, switchCode(TABLE, 1, 0, LEAST, GREATEST));
        judged("half of all ways", 24, 1, switchCode(TABLE, 1, 0, 0, GREATEST));
        judged("half of all ways", 24, 1, switchCode(TABLE, 1, 0, LEAST, 0));
        judged("ways that come round", 24, 1, switchCode(TABLE, 1, 0, LEAST, GREATEST - 1));
        for (int ways : new int[] {495, 496}) {
            int[] numbers = new int[3 + ways];
            numbers[1] = -7;
            numbers[2] = ways - 8;
            int[] code = switchCode(TABLE, 0, numbers);
            CodeGate gate = Check.fed(start().code("c", 0, 0, Arrays.copyOf(code, code.length - 1)).u2(0).file());
            CHECK.due(ways + " ways: judge()", gate.judge(), 0);
            CHECK.due(ways + " ways: told(6)", gate.told(6), 1 + ways);
        }
    }

    private static void manyPairs() {
        CHECK.says("pairs below 0, above 250");
        for (int pairs : new int[] {-1, -2, LEAST, 251, 252, 65536, GREATEST}) {
            judged("pairs", 24, 0, switchCode(PAIRS, 0, 0, pairs, 0, 0));
            judged("pairs, and nothing comes", 24, 0, Arrays.copyOf(switchCode(PAIRS, 0, 0, pairs), 12));
        }
        for (int pairs : new int[] {1, 249, 250}) {
            judged("pairs that are not there", 25, 0, switchCode(PAIRS, 0, 0, pairs));
        }
        for (int pairs : new int[] {0, 1, 247, 248}) {
            int[] numbers = new int[2 + 2 * pairs];
            numbers[1] = pairs;
            for (int i = 0; i < pairs; i++) {
                numbers[2 + 2 * i] = i - 100;
            }
            int[] code = switchCode(PAIRS, 0, numbers);
            CodeGate gate = Check.fed(start().code("c", 0, 0, Arrays.copyOf(code, code.length - 1)).u2(0).file());
            CHECK.due(pairs + " pairs: judge()", gate.judge(), 0);
            CHECK.due(pairs + " pairs: told(6)", gate.told(6), 1 + pairs);
        }
    }

    private static void keys() {
        CHECK.says("or whose keys do not rise");
        for (int key : new int[] {LEAST, LEAST + 1, -1, 0, 1, GREATEST - 1, GREATEST}) {
            passes("one key", switchCode(PAIRS, 0, 0, 1, key, 0));
            judged("a key twice", 24, 0, switchCode(PAIRS, 0, 0, 2, key, 0, key, 0));
            if (key > LEAST) {
                passes("keys rise by one", switchCode(PAIRS, 0, 0, 2, key - 1, 0, key, 0));
                judged("keys fall by one", 24, 0, switchCode(PAIRS, 0, 0, 2, key, 0, key - 1, 0));
                passes("keys rise from the least", switchCode(PAIRS, 0, 0, 2, LEAST, 0, key, 0));
            }
        }
        passes("keys rise by sign", switchCode(PAIRS, 0, 0, 3, LEAST, 0, -1, 0, GREATEST, 0));
        judged("keys fall by sign", 24, 0, switchCode(PAIRS, 0, 0, 2, 1, 0, LEAST, 0));
        judged("keys fall by sign", 24, 0, switchCode(PAIRS, 0, 0, 2, 0, 0, -1, 0));
        judged("the third falls", 24, 0, switchCode(PAIRS, 0, 0, 3, 1, 0, 5, 0, 3, 0));
        judged("the third is the first", 24, 0, switchCode(PAIRS, 0, 0, 3, 1, 0, 5, 0, 1, 0));
    }

    /** Each beginning of a switch is 25, but for one that holds what is wrong already. */
    private static void cutShort(String what, int wrongFrom, int pc, int[] code) {
        for (int n = pc + 1; n < code.length; n++) {
            boolean wrong = n >= wrongFrom;
            judged(what + ", the first " + n, wrong ? 24 : 25, pc, Arrays.copyOf(code, n));
        }
    }

    private static void numberByNumber() {
        CHECK.says("(number by number, as they stand: 25 if one is not all there, else 24 as soon as it is wrong: low and high when both "
            + "are there, each key ahead of its way)");
        for (int pc : new int[] {0, 3, 5}) {
            int at = (pc / 4 + 1) * 4;
            int never = GREATEST;
            int[] right = switchCode(TABLE, pc, 0, 5, 6, 0, 0);
            cutShort("tableswitch", never, pc, Arrays.copyOf(right, right.length - 1));
            cutShort("low above high", at + 12, pc, switchCode(TABLE, pc, 0, 6, 5, 0, 0));
            cutShort("low above high, and a wrong way ahead", at + 12, pc, switchCode(TABLE, pc, 1, 6, 5, 0, 0));
            cutShort("501 ways", at + 12, pc, switchCode(TABLE, pc, 0, 0, 500, 0, 0));
            right = switchCode(PAIRS, pc, 0, 2, 5, 0, 6, 0);
            cutShort("lookupswitch", never, pc, Arrays.copyOf(right, right.length - 1));
            cutShort("251 pairs", at + 8, pc, switchCode(PAIRS, pc, 0, 251, 5, 0, 6, 0));
            cutShort("-1 pairs", at + 8, pc, switchCode(PAIRS, pc, 0, -1, 5, 0, 6, 0));
            cutShort("a key twice", at + 20, pc, switchCode(PAIRS, pc, 0, 2, 5, 0, 5, 0));
            cutShort("the third key falls", at + 28, pc, switchCode(PAIRS, pc, 0, 3, 5, 0, 6, 0, 4, 0));
        }
        judged("24 ahead of where it goes", 24, 0, switchCode(PAIRS, 0, 1, 2, 5, 1, 5, 1));
    }

    private static void aims() {
        CHECK.says("Behind all: each place that is gone to (by if.., goto, goto_w, switches, ifnull, ifnonnull) is the first byte of an "
            + "INSTRUCTION (26, at the INSTRUCTION");
        for (int op = 153; op <= 199; op++) {
            if (op <= GOTO || op >= 198) {
                passes("to itself", NOP, op, 0, 0, RETURN);
                passes("to the first byte", NOP, op, 255, 255, RETURN);
                passes("to the last one", NOP, op, 0, 3, RETURN);
                judged("into itself", 26, 1, NOP, op, 0, 1, RETURN);
                judged("into itself", 26, 1, NOP, op, 0, 2, RETURN);
                judged("to the end", 26, 1, NOP, op, 0, 4, RETURN);
                judged("behind the end", 26, 1, NOP, op, 0, 5, RETURN);
                judged("ahead of all", 26, 1, NOP, op, 255, 254, RETURN);
                judged("far away", 26, 1, NOP, op, 127, 255, RETURN);
                judged("far back", 26, 1, NOP, op, 128, 0, RETURN);
                judged("into another one", 26, 1, NOP, op, 0, 4, 16, 0, RETURN);
            }
        }
        judged("into wide", 26, 0, GOTO, 0, 4, WIDE, 21, 0, 0, RETURN);
        passes("to wide", GOTO, 0, 3, WIDE, 21, 0, 0, RETURN);
        passes("where it goes is looked at behind all", GOTO, 0, 5, 16, 0, RETURN);
    }

    private static void farAims() {
        CHECK.says("goto_w");
        passes("goto_w", NOP, GOTO_W, 0, 0, 0, 5, RETURN);
        passes("goto_w back", NOP, GOTO_W, 255, 255, 255, 255, RETURN);
        passes("goto_w to itself", NOP, GOTO_W, 0, 0, 0, 0, RETURN);
        for (int[] aim : new int[][] {{127, 255, 255, 255}, {128, 0, 0, 0}, {0, 1, 0, 5}, {255, 255, 255, 254}, {0, 0, 255, 255},
            {128, 0, 0, 5}, {0, 0, 0, 6}, {0, 0, 0, 1}, {0, 0, 0, 7}}) {
            judged("goto_w", 26, 1, NOP, GOTO_W, aim[0], aim[1], aim[2], aim[3], RETURN);
        }
        int[] code = new int[2000];
        code[0] = GOTO;
        code[1] = 1999 >> 8;
        code[2] = 1999 & 255;
        code[1999] = RETURN;
        passes("goto from the first of 2000 bytes to the last", code);
        code[2] = 2000 & 255;
        judged("goto from the first of 2000 bytes to the end", 26, 0, code);
        code = new int[2000];
        code[1997] = GOTO;
        code[1998] = -1997 >> 8 & 255;
        code[1999] = -1997 & 255;
        passes("goto from the last to the first", code);
        code[1999]--;
        judged("goto from the last ahead of the first", 26, 1997, code);
    }

    private static void switchAims() {
        CHECK.says("(switches)");
        for (int wrong : new int[] {1, -3, 100, LEAST, GREATEST, 4, 16}) {
            judged("a way to no first byte", 26, 2, switchCode(TABLE, 2, 0, 0, 1, -2, wrong));
            judged("the first way to no first byte", 26, 2, switchCode(TABLE, 2, 0, 0, 1, wrong, 0));
            judged("default to no first byte", 26, 2, switchCode(TABLE, 2, wrong, 0, 1, -2, 0));
            judged("a way to no first byte", 26, 2, switchCode(PAIRS, 2, 0, 2, 7, 0, 9, wrong));
            judged("the first way to no first byte", 26, 2, switchCode(PAIRS, 2, 0, 2, 7, wrong, 9, 0));
            judged("default to no first byte", 26, 2, switchCode(PAIRS, 2, wrong, 1, 9, 0));
        }
        passes("to the return behind it", switchCode(TABLE, 2, 22, 0, 1, 22, 22));
        judged("to the end", 26, 2, switchCode(TABLE, 2, 22, 0, 1, 22, 23));
        passes("a key is no place", switchCode(PAIRS, 2, 0, 2, -77, -1, 77, -2));
    }

    /** A longer CODE stands ahead of this one; its first bytes do not count here, nor those of the FILE judged ahead. */
    private static void aimsOfTwo() {
        CHECK.says("is the first byte of an INSTRUCTION (of this CODE)");
        for (int aim : new int[] {1, 2, 3, 4, 5, 6}) {
            Maker m = new Maker(52).open(0x21).u2(0, 2).member("a", 8, "a", "()V").u2(1).code("c", 0, 0, 0, 0, 0, 0, 0, 0, 0, 0, RETURN);
            m.member("b", 8, "b", "()V").u2(1).code("d", 0, 0, GOTO, 0, aim, RETURN).u2(0);
            CHECK.judged("to " + aim, m.file(), aim == 3 ? 0 : 26, m.place("d.code"));
            CodeGate gate = Check.fed(start().code("c", 0, 0, 0, 0, 0, 0, 0, 0, 0, 0, RETURN).u2(0).file());
            CHECK.due("the FILE ahead", gate.judge(), 0);
            gate.cut(gate.beginnings());
            m = start().code("c", 0, 0, GOTO, 0, aim, RETURN).u2(0);
            Check.feedAll(gate, m.file());
            CHECK.due("to " + aim + " in the next FILE", gate.judge(), aim == 3 ? 0 : 1 + m.place("c.code"));
        }
        for (int handler : new int[] {2, 3}) {
            Maker m = new Maker(52).open(0x21).u2(0, 2).member("a", 8, "a", "()V").u2(1).code("c", 0, 0, 0, 0, 0, 0, RETURN);
            m.member("b", 8, "b", "()V").u2(1).attribute("d", "Code", 12 + 3 + 8).u2(0, 0).u4(3).u1(0, 0, RETURN).u2(1);
            m.mark("row").u2(0, 3, handler, 0).u2(0, 0);
            CHECK.judged("the handler at " + handler, m.file(), handler == 2 ? 0 : 28, m.place("row"));
        }
    }

    private static void firstAim() {
        CHECK.says("the first one by their places)");
        judged("the second of three", 26, 3, GOTO, 0, 6, GOTO, 0, 1, GOTO, 0, 1);
        judged("the first of three", 26, 0, GOTO, 0, 1, GOTO, 0, 1, GOTO, 0, 0);
        judged("the third of three", 26, 6, GOTO, 0, 0, GOTO, 0, 0, GOTO, 0, 1);
        judged("another RULE of a later INSTRUCTION ahead of it", 22, 3, GOTO, 0, 1, 255);
        judged("24 of a later INSTRUCTION ahead of it", 24, 3, GOTO, 0, 1, 188, 0, RETURN);
        judged("25 of the last INSTRUCTION ahead of it", 25, 3, GOTO, 0, 1, 16);
    }

    private static void mostAims() {
        CHECK.says("each place that is gone to (as many as 2000 bytes can hold)");
        int[] code = new int[2000];
        for (int i = 0; i < 1998; i += 3) {
            code[i] = 153;
        }
        code[1999] = RETURN;
        CodeGate gate = Check.fed(start().code("c", 0, 0, code).u2(0).file());
        CHECK.due("judge()", gate.judge(), 0);
        CHECK.due("told(6)", gate.told(6), 666);
        code[1997] = 1;
        judged("the last of 666 goes wrong", 26, 1995, code);
    }

    private static void last() {
        CHECK.says("The last one is goto, goto_w, a switch, a return (of i, l, a, or none) or athrow (27, at it).");
        for (int op : new int[] {172, 173, 176, 177, 191}) {
            passes("last", op);
            passes("last", NOP, op);
        }
        passes("last", GOTO, 0, 0);
        passes("last", GOTO_W, 0, 0, 0, 0);
        for (int pc = 0; pc < 4; pc++) {
            int[] table = switchCode(TABLE, pc, 0, 0, 0, 0);
            passes("last", Arrays.copyOf(table, table.length - 1));
            int[] pairs = switchCode(PAIRS, pc, 0, 0);
            passes("last", Arrays.copyOf(pairs, pairs.length - 1));
        }
        for (int op : new int[] {0, 1, 2, 3, 9, 26, 42, 46, 59, 75, 79, 87, 89, 94, 95, 96, 131, 133, 147, 148, 190}) {
            judged("last", 27, 0, op);
            judged("last", 27, 1, RETURN, op);
        }
        for (int op = 153; op <= 199; op++) {
            if (op < GOTO || op >= 198) {
                judged("last", 27, 1, NOP, op, 0, 0);
            }
        }
        judged("last", 27, 0, 16, RETURN);
        judged("last", 27, 0, 17, RETURN, RETURN);
        judged("last", 27, 0, WIDE, 21, 0, 0);
        judged("last", 27, 0, 188, 10);
        judged("last", 27, 1, RETURN, 132, 0, RETURN);
        judged("where it goes ahead of the last one", 26, 0, GOTO, 0, 1, NOP);
        Maker m = start().attribute("c", "Code", 13).u2(0, 0).u4(1).mark("code").u1(NOP).u2(31);
        CHECK.breaks("the last one ahead of the rows", m.file(), 27, m.place("code"));
    }

    private static Maker withRows(int n, int there) {
        Maker m = start().attribute("c", "Code", 12 + 5 + 8 * n).u2(0, 0).u4(5).u1(NOP, GOTO, 255, 255, RETURN);
        m.mark("rows").u2(n);
        for (int i = 0; i < there; i++) {
            m.u2(0, 5, 4, 0);
        }
        return m.u2(0, 0);
    }

    private static void rowCount() {
        CHECK.says("u2 how many rows, up to 30 (15)");
        for (int n : new int[] {0, 1, 29, 30, 31, 32, 256, 0x8000, 0xFFFF}) {
            Maker m = withRows(n, Math.min(n, 32));
            CHECK.judged(n + " rows", m.file(), n <= 30 ? 0 : 15, m.place("rows"));
            if (n <= 30) {
                CodeGate gate = Check.fed(m.file());
                gate.judge();
                CHECK.due("told(7)", gate.told(7), n);
            }
        }
    }

    private static void row(String what, int rule, int from, int to, int handler, int caught) {
        Maker m = start().attribute("c", "Code", 33).u2(0, 0).u4(5).u1(NOP, GOTO, 255, 255, RETURN);
        m.u2(2, 0, 1, 0, 0).mark("row").u2(from, to, handler).mark("caught").u2(caught).u2(0, 0);
        CHECK.judged(what, m.file(), rule, m.place(rule == 28 ? "row" : "caught"));
    }

    private static void rows() {
        CHECK.says("each u2 from, u2 to, u2 the handler, u2 a CLASS or 0: when all four are read: from below to, from and the handler "
            + "first bytes of INSTRUCTIONS, to likewise or the end (28, at from)");
        start();
        // The CODE is: nop; goto 0; return. First bytes are 0, 1 and 4, and the end is 5.
        for (int from = 0; from <= 7; from++) {
            for (int to = 0; to <= 7; to++) {
                for (int handler = 0; handler <= 6; handler++) {
                    boolean right = from < to && "014".indexOf('0' + from) >= 0 && "0145".indexOf('0' + to) >= 0
                        && "014".indexOf('0' + handler) >= 0;
                    row("row " + from + " " + to + " " + handler, right ? 0 : 28, from, to, handler, 0);
                }
            }
        }
        for (int far : new int[] {256, 2000, 2001, 0x7FFF, 0x8000, 0xFFFC, 0xFFFF}) {
            row("from " + far, 28, far, 5, 0, 0);
            row("to " + far, 28, 0, far, 0, 0);
            row("the handler " + far, 28, 0, 5, far, 0);
        }
        for (int n = 0; n < 4; n++) {
            byte[] file = start().attribute("c", "Code", 21).u2(0, 0).u4(1).u1(RETURN).u2(1).u2(new int[] {9, 9, 9, 9}).file();
            file = Arrays.copyOf(file, file.length - 8 + 2 * n + (n == 3 ? 1 : 0));
            CHECK.breaks("a wrong row with " + n + " of four", file, 1, file.length);
        }
    }

    /** In a CODE of 2000 bytes, and with the rows of a longer CODE read ahead of a shorter one's. */
    private static void rowsOfAll() {
        CHECK.says("to likewise or the end");
        int[] code = new int[2000];
        code[1999] = RETURN;
        for (int[] row : new int[][] {{0, 2000, 1999, 0}, {1999, 2000, 0, 0}, {0, 2001, 0, 28}, {2000, 2001, 0, 28}, {0, 2000, 2000, 28},
            {1999, 1999, 0, 28}}) {
            Maker m = start().attribute("c", "Code", 12 + 2000 + 8).u2(0, 0).u4(2000).u1(code).u2(1);
            m.mark("row").u2(row[0], row[1], row[2], 0).u2(0, 0);
            CHECK.judged("row " + Arrays.toString(row), m.file(), row[3], m.place("row"));
        }
        for (int pc : new int[] {1, 2}) {
            Maker m = new Maker(52).open(0x21).u2(0, 2).member("m", 8, "m", "()V").u2(1).code("c", 0, 0, NOP, NOP, NOP, NOP, RETURN);
            m.member("n", 8, "n", "()V").u2(1).attribute("d", "Code", 12 + 3 + 8).u2(0, 0).u4(3).u1(16, 0, RETURN).u2(1);
            m.mark("row").u2(0, 3, pc, 0).u2(0, 0);
            CHECK.judged("first bytes of the CODE ahead do not count", m.file(), pc == 2 ? 0 : 28, m.place("row"));
        }
    }

    private static void caught() {
        CHECK.says("then the CLASS (8).");
        start();
        row("none", 0, 0, 4, 1, 0);
        row("a CLASS", 0, 0, 4, 1, type);
        row("an array", 0, 0, 4, 1, array);
        for (int wrong : new int[] {text, longNumber, longNumber + 1, 299, 300, 0x8000, 0x8000 + type, 0xFFFF}) {
            row("no CLASS " + wrong, 8, 0, 4, 1, wrong);
            row("28 ahead of 8", 28, 0, 4, 2, wrong);
        }
        Maker m = start().attribute("c", "Code", 33).u2(0, 0).u4(1).u1(RETURN).u2(2);
        m.u2(0, 1, 0).mark("caught").u2(text).u2(9, 9, 9, 9).u2(0, 0);
        CHECK.breaks("the CLASS of a row ahead of the next row", m.file(), 8, m.place("caught"));
    }

    private static void noAttributes() {
        CHECK.says("u2 0: no ATTRIBUTES in it (19, at that).");
        for (int n : new int[] {1, 2, 256, 0x8000, 0xFFFF}) {
            Maker m = start().attribute("c", "Code", 13).u2(0, 0).u4(1).u1(RETURN).u2(0).mark("in").u2(n).u2(0);
            CHECK.breaks(n + " ATTRIBUTES in it", m.file(), 19, m.place("in"));
            m = start().attribute("c", "Code", 99).u2(0, 0).u4(1).u1(RETURN).u2(0).mark("in").u2(n);
            CHECK.breaks("19 ahead of 18", m.file(), 19, m.place("in"));
        }
        byte[] file = start().attribute("c", "Code", 13).u2(0, 0).u4(1).u1(RETURN).u2(0).u1(9).file();
        CHECK.breaks("half of it", file, 1, file.length);
    }
}
