import java.util.ArrayList;
import java.util.Arrays;
import java.util.List;

/** THE POOL, sentence by sentence: RULES 4 to 12. */
public final class PoolTest {
    private static final String LETTERS = letters();
    private static final Check CHECK = new Check();

    public static void main(String[] args) {
        count();
        entriesCounted();
        kinds();
        sizes();
        textSizes();
        longs();
        lettersOfOne();
        lettersOfTwo();
        lettersOfThree();
        textEndsEarly();
        references();
        referencesOfTwoFiles();
        firstNumber();
        classNames();
        arrays();
        strings();
        members();
        namedNames();
        namedTypes();
        order();
        plainNames();
        fieldTypes();
        brackets();
        methodTypes();
        slots();
        floats();
        floatsElsewhereWrong();
        fullFile();
        CHECK.done();
    }

    private static String letters() {
        StringBuilder all = new StringBuilder();
        for (char c = 1; c < 128; c++) {
            all.append(c);
        }
        return all.toString();
    }

    /** The rest of a class that passes, behind the entries that a test made. */
    private static byte[] rest(Maker m) {
        return m.open(0x21).u2(0, 0, 0).file();
    }

    /** Entries of every KIND, each in front of its number in the row; the number behind a LONG is 0. */
    private static int[] oneOfEach(Maker m) {
        int[] numbers = new int[13];
        numbers[1] = m.text("t");
        numbers[3] = m.number(1);
        numbers[5] = m.longNumber(1);
        numbers[0] = numbers[5] + 1;
        numbers[7] = m.classOf("T");
        numbers[8] = m.string("s");
        numbers[9] = m.field("T", "f", "I");
        numbers[10] = m.method("T", "m", "()V");
        numbers[11] = m.outer("T", "m", "()V");
        numbers[12] = m.named("n", "I");
        return numbers;
    }

    private static void count() {
        CHECK.says("THE POOL: u2 n, 1 .. 300 (4)");
        for (int n : new int[] {0, 301, 302, 0x8000, 0xFFFF}) {
            CHECK.breaks("n is " + n, rest(new Maker(52).sayCount(n)), 4, 8);
        }
        CHECK.breaks("n is 1: the class comes at once", new Maker(52).sayCount(1).u2(0x21, 1).file(), 8, 12);
        CHECK.breaks("n is 1, and nothing comes", new Maker(52).file(), 1, 10);
        for (int n : new int[] {5, 6, 299, 300, 301}) {
            Maker m = new Maker(52);
            for (int i = 5; i < n; i++) {
                m.number(i);
            }
            CHECK.judged("n is " + n, rest(m), n <= 300 ? 0 : 4, 8);
        }
    }

    private static void entriesCounted() {
        CHECK.says("the entries 1 .. n - 1");
        Maker m = new Maker(52);
        byte[] file = rest(m);
        int behind = m.place("flags");
        file[9]++;
        CHECK.breaks("one less than n - 1: FLAGS are a KIND", file, 6, behind);
        file[9] -= 2;
        CHECK.breaks("one more than n - 1: a CLASS is FLAGS", file, 13, behind - 3);
    }

    private static void kinds() {
        CHECK.says("each u1 its KIND (PLACE of an entry) .. 4, 6, 15 .. 20: 7. Others: 6.");
        for (int kind = 0; kind < 256; kind++) {
            for (boolean first : new boolean[] {true, false}) {
                Maker m = new Maker(52);
                if (!first) {
                    m.text("x");
                }
                int k = m.raw(kind);
                boolean known = kind == 1 || kind == 3 || kind == 5 || kind >= 7 && kind <= 12;
                boolean refused = kind == 4 || kind == 6 || kind >= 15 && kind <= 20;
                byte[] file = m.file();
                if (known) {
                    CHECK.breaks("KIND " + kind + ", then nothing", file, 1, file.length);
                } else {
                    CHECK.breaks("KIND " + kind + ", then nothing", file, refused ? 7 : 6, m.place(k));
                    CHECK.breaks("KIND " + kind, rest(m), refused ? 7 : 6, m.place(k));
                }
            }
        }
    }

    private static void sizes() {
        CHECK.says("1 TEXT: u2 how many, these bytes .. 3 INT: u4; 5 LONG: u4 u4 .. CLASS: u2; STRING: u2; .. NAMED: u2 u2.");
        int[] sizes = {0, 2, 0, 4, 0, 8, 0, 2, 2, 4, 4, 4, 4};
        for (int kind = 1; kind <= 12; kind++) {
            for (int n = 0; n < sizes[kind]; n++) {
                int[] entry = new int[1 + n];
                entry[0] = kind;
                Maker m = new Maker(52);
                m.raw(entry);
                CHECK.breaks("KIND " + kind + " with " + n, m.file(), 1, 11 + n);
            }
            if (sizes[kind] > 0) {
                int[] entry = new int[1 + sizes[kind]];
                entry[0] = kind;
                Maker m = new Maker(52);
                m.raw(entry);
                m.sayCount(4);
                int next = 11 + sizes[kind];
                m.raw(255);
                CHECK.breaks("behind KIND " + kind, m.file(), 6, next);
            }
        }
        for (int bits : new int[] {0, -1, Integer.MIN_VALUE, Integer.MAX_VALUE}) {
            Maker m = new Maker(52);
            m.number(bits);
            m.longNumber((long) bits << 32 | bits & 0xFFFFFFFFL);
            CHECK.passes("INT and LONG of " + bits, rest(m));
        }
    }

    private static void textSizes() {
        CHECK.says("1 TEXT: u2 how many, these bytes, each as below (5)");
        for (int n : new int[] {0, 1, 2, 255, 256, 3000}) {
            Maker m = new Maker(52);
            m.otherText("x".repeat(n));
            CHECK.passes("a TEXT of " + n, rest(m));
        }
        Maker m = new Maker(52);
        m.raw(1, 255, 255, 'a', 0);
        CHECK.breaks("a wrong byte ahead of the FILE's end", m.file(), 5, 14);
        m = new Maker(52);
        m.raw(1, 255, 255, 'a', 0xC2);
        CHECK.breaks("the FILE's end ahead of the TEXT's", m.file(), 1, 15);
        m = new Maker(52);
        m.raw(1, 0, 3, 'a', 'b');
        CHECK.breaks("the last byte is not there", m.file(), 1, 15);
    }

    private static void longs() {
        CHECK.says("5 LONG: u4 u4, and the next number is no entry (4 at its PLACE, if it is n - 1)");
        Maker m = new Maker(52);
        m.longNumber(1);
        m.sayCount(2);
        CHECK.breaks("a LONG as 1 of n = 2", m.file(), 4, 10);
        CHECK.breaks("a LONG as 1 of n = 2, not all there", Arrays.copyOf(m.file(), 18), 1, 18);
        m.sayCount(3);
        CHECK.breaks("a LONG as 1 of n = 3", m.file(), 1, 19);
        m = new Maker(52);
        m.classOf("A");
        m.classOf("java/lang/Object");
        int k = m.longNumber(1);
        CHECK.passes("a LONG as n - 2", rest(m));
        m.sayCount(k + 1);
        CHECK.breaks("a LONG as n - 1", m.file(), 4, m.place(k));
        for (int last : new int[] {297, 298, 299}) {
            m = new Maker(52);
            m.classOf("A");
            m.classOf("java/lang/Object");
            for (int i = 5; i < last; i++) {
                m.number(i);
            }
            k = m.longNumber(1);
            if (last < 298) {
                m.number(0);
            }
            m.sayCount(300);
            CHECK.judged("a LONG as " + last + " of n = 300", rest(m), last < 299 ? 0 : 4, m.place(k));
        }
        m = new Maker(52);
        k = m.longNumber(1);
        int string = m.one(8, k + 1);
        CHECK.breaks("to the number behind a LONG", rest(m), 8, m.place(string) + 1);
        m = new Maker(52);
        k = m.longNumber(1);
        string = m.one(8, k);
        CHECK.breaks("to the LONG", rest(m), 8, m.place(string) + 1);
    }

    private static byte[] textFile(int... letters) {
        Maker m = new Maker(52);
        m.otherText(Maker.bytes(letters));
        return rest(m);
    }

    /** A wrong byte in a TEXT of its own, and behind other letters. */
    private static void badLetter(int index, int... letters) {
        String what = "letters " + Arrays.toString(letters);
        CHECK.breaks(what, textFile(letters), 5, 13 + index);
        int[] later = new int[letters.length + 6];
        int[] ahead = {'a', 0xC3, 0xA9, 0xE2, 0x82, 0xAC};
        System.arraycopy(ahead, 0, later, 0, 6);
        System.arraycopy(letters, 0, later, 6, letters.length);
        CHECK.breaks(what + " behind others", textFile(later), 5, 19 + index);
    }

    private static void lettersOfOne() {
        CHECK.says("A TEXT is letters of one byte 01 .. 7F");
        for (int b = 1; b < 0x80; b++) {
            CHECK.passes("letter " + b, textFile(b));
        }
        badLetter(0, 0);
        for (int b = 0x80; b < 0xC0; b++) {
            badLetter(0, b, 0x80);
        }
        for (int b = 0xF0; b <= 0xFF; b++) {
            badLetter(0, b, 0x80, 0x80, 0x80);
        }
    }

    private static void lettersOfTwo() {
        CHECK.says("of two, C0 80, or C2 .. DF and 80 .. BF");
        for (int first = 0xC0; first <= 0xDF; first++) {
            for (int next = 0; next < 256; next++) {
                if (first == 0xC1) {
                    badLetter(0, first, next);
                } else if (next == 0x80 || first != 0xC0 && next > 0x80 && next <= 0xBF) {
                    CHECK.passes("letter " + first + " " + next, textFile(first, next));
                } else {
                    badLetter(1, first, next);
                }
            }
        }
    }

    private static void lettersOfThree() {
        CHECK.says("of three, E0 and A0 .. BF, or E1 .. EF and 80 .. BF, then 80 .. BF.");
        for (int first = 0xE0; first <= 0xEF; first++) {
            for (int next = 0; next < 256; next++) {
                if (next >= (first == 0xE0 ? 0xA0 : 0x80) && next <= 0xBF) {
                    CHECK.passes("letter " + first + " " + next, textFile(first, next, 0x80, first, next, 0xBF));
                    badLetter(2, first, next, 0x7F);
                    badLetter(2, first, next, 0xC0);
                    badLetter(2, first, next, 0);
                } else {
                    badLetter(1, first, next, 0x80);
                    badLetter(1, first, next);
                }
            }
        }
        for (int last = 0; last < 256; last++) {
            CHECK.judged("E2 82 " + last, textFile(0xE2, 0x82, last), last >= 0x80 && last <= 0xBF ? 0 : 5, 15);
        }
    }

    private static void textEndsEarly() {
        CHECK.says("The byte with which it cannot be any more is the PLACE (the number of bytes', if it ends too early).");
        for (int[] early : new int[][] {{0xC0}, {0xC2}, {0xDF}, {'a', 0xC2}, {0xE0}, {0xE1}, {0xEF}, {0xE0, 0xA0}, {0xEF, 0x80},
            {0xC2, 0x80, 0xC2}, {0xE1, 0x80, 0x80, 0xE1, 0x80}}) {
            CHECK.breaks("ends too early " + Arrays.toString(early), textFile(early), 5, 11);
        }
        Maker m = new Maker(52);
        m.text("ab");
        int k = m.otherText(Maker.bytes('c', 0xE1, 0x80));
        CHECK.breaks("the second ends too early", rest(m), 5, m.place(k) + 1);
        CHECK.breaks("a wrong byte ahead of too early an end", textFile(0xE1, 0x80, 0xE1, 0xC2), 5, 15);
        CHECK.passes("no letter", textFile());
    }

    /** Every u2 of an entry to every number: all but those of one KIND are refused. */
    private static void references() {
        CHECK.says("a number of the POOL that is no entry, or of another KIND: 8; its u2 is the PLACE");
        int[][] rows = {{7, 1, 1}, {8, 1, 1}, {9, 1, 7}, {9, 3, 12}, {10, 1, 7}, {10, 3, 12}, {11, 1, 7}, {11, 3, 12},
            {12, 1, 1}, {12, 3, 1}};
        for (int[] row : rows) {
            Maker known = new Maker(52);
            int[] numbers = oneOfEach(known);
            int at = known.place(numbers[row[0]]) + row[1];
            byte[] file = rest(known);
            int n = (file[8] & 255) << 8 | file[9] & 255;
            List<Integer> wrong = new ArrayList<>(List.of(0, n, n + 1, 255, 256, 299, 300, 301, 0x7FFF, 0x8000, 0xFFFF));
            for (int kind = 0; kind < numbers.length; kind++) {
                if (kind != row[2] && numbers[kind] != 0) {
                    wrong.add(numbers[kind]);
                }
            }
            CHECK.passes("all are right", file);
            for (int to : wrong) {
                byte[] other = file.clone();
                other[at] = (byte) (to >> 8);
                other[at + 1] = (byte) to;
                CHECK.breaks("KIND " + row[0] + " at " + row[1] + " to " + to, other, 8, at);
            }
        }
        Maker m = new Maker(52);
        int k = m.one(8, 6);
        m.open(0x21).u2(0, 0, 0);
        m.text("the last number");
        CHECK.due("the last number is told", m.text("the last number"), 6);
        CHECK.passes("to the last number", m.file());
        m = new Maker(52);
        m.text("the first number");
        k = m.one(8, 1);
        CHECK.passes("to the first number", rest(m));
        CHECK.due("the first number is told", k, 2);
    }

    /** One object goes along a larger POOL, then a smaller one: what the larger one had is no entry of the smaller one. */
    private static void referencesOfTwoFiles() {
        CHECK.says("a number of the POOL that is no entry (though it was one of the FILE ahead)");
        Maker larger = new Maker(52);
        larger.open(0x21).u2(0, 0, 0);
        for (int i = 0; i < 20; i++) {
            larger.otherText("x");
        }
        for (int more = 0; more < 3; more++) {
            Maker smaller = new Maker(52).open(0x21).u2(0, 0, 0);
            int k = smaller.one(8, 6 + more);
            CHECK.due("the last number", k, 5);
            judgedBehind(larger, smaller.file(), 8, smaller.place(5) + 1);
        }
        Maker smaller = new Maker(52).open(0x21).u2(0, 0, 0);
        int big = smaller.longNumber(1);
        CodeGate gate = judgedBehind(larger, smaller.file(), 0, 0);
        CHECK.due("behind a LONG", gate.entry(big + 1), 0);
        int k = smaller.one(8, big + 1);
        judgedBehind(larger, smaller.file(), 8, smaller.place(k) + 1);
    }

    private static CodeGate judgedBehind(Maker ahead, byte[] file, int rule, int place) {
        CodeGate gate = Check.fed(ahead.file());
        CHECK.due("the FILE ahead", gate.judge(), 0);
        gate.cut(ahead.file().length);
        Check.feedAll(gate, file);
        CHECK.due("judge()", gate.judge(), rule == 0 ? 0 : 1 + place);
        CHECK.due("rule()", gate.rule(), rule);
        return gate;
    }

    private static void firstNumber() {
        CHECK.says("the entries 1 .. n - 1 (what the first one is)");
        Maker m = new Maker(52);
        m.text("(JI)V");
        m.open(0x21).u2(0, 1).member("m", 8, "m", "(JI)V").u2(1).code("c", 0, 2, 177).u2(0);
        CHECK.breaks("a descriptor's SLOTS", m.file(), 21, m.place("c.locals"));
        m = new Maker(52);
        m.two(11, 3, 4);
        m.text("T");
        m.one(7, 2);
        m.two(12, 5, 6);
        m.text("n");
        m.text("(JI)V");
        coded("invokeinterface of 1", m, 0, 185, 0, 1, 4, 0, 177);
        m = new Maker(52);
        m.one(7, 2);
        m.text("[[I");
        coded("multianewarray of 1", m, 0, 197, 0, 1, 2, 177);
        m = new Maker(52);
        m.one(7, 2);
        m.text("[[I");
        coded("new of 1", m, 24, 187, 0, 1, 177);
        m = new Maker(52);
        m.one(7, 2);
        m.text("[I");
        m.u2(0x21).mark("self").u2(1).u2(0);
        CHECK.breaks("an array", m.file(), 9, m.place("self"));
    }

    private static void coded(String what, Maker m, int rule, int... code) {
        m.open(0x21).u2(0, 1).member("m", 8, "m", "()V").u2(1).code("c", 0, 0, code).u2(0);
        CHECK.judged(what, m.file(), rule, m.place("c.code"));
    }

    private static void classOf(String name, int rule) {
        Maker m = new Maker(52);
        int k = m.classOf(name);
        CHECK.judged("CLASS " + name, rest(m), rule, m.place(k) + 1);
    }

    private static void classNames() {
        CHECK.says("A CLASS NAME: one or more parts, each as a plain name, / between.");
        for (char c : LETTERS.toCharArray()) {
            int rule = ".;[/<>".indexOf(c) < 0 ? 0 : 9;
            classOf("" + c, rule);
            classOf("a/" + c, rule);
            classOf(c + "/a", rule);
            classOf("a" + c + "a", c == '/' ? 0 : rule);
            classOf("a/a" + c, rule);
        }
        for (String right : new String[] {"a/b", "a/b/c", "a/b/c/d/e/f/g", "()V", "\u00C2\u0080", "F", "D", "LA", "V",
            "x".repeat(3000), "x/".repeat(1000) + "x"}) {
            classOf(right, 0);
        }
        for (String wrong : new String[] {"", "/", "//", "a/", "/a", "a//b", "/a/b", "a/b/", "a/b//c", "La;", "<init>", "<clinit>",
            "x/".repeat(1000)}) {
            classOf(wrong, 9);
        }
    }

    private static void arrays() {
        CHECK.says("or an array: 1 to 8 [ and what may follow these in a field's descriptor (9)");
        for (int n = 0; n <= 12; n++) {
            String ahead = "[".repeat(n);
            for (String type : new String[] {"B", "C", "I", "J", "S", "Z"}) {
                classOf(ahead + type, n <= 8 ? 0 : 9);
            }
            classOf(ahead + "La/b;", n >= 1 && n <= 8 ? 0 : 9);
            classOf(ahead + "F", n == 0 ? 0 : n <= 8 ? 12 : 9);
            classOf(ahead + "D", n == 0 ? 0 : n <= 8 ? 12 : 9);
        }
        for (char c : LETTERS.toCharArray()) {
            classOf("[" + c, "BCIJSZ".indexOf(c) >= 0 ? 0 : "FD".indexOf(c) >= 0 ? 12 : 9);
        }
        for (String wrong : new String[] {"[", "[[[[[[[[", "[[[[[[[[[", "[La", "[L;", "[La//b;", "[L/;", "[I;", "[II", "[()V",
            "[FF", "[La;;", "[La;I", "[L[I;", "[L<init>;", "[L", "I[", "a[I"}) {
            classOf(wrong, 9);
        }
    }

    private static void strings() {
        CHECK.says("STRING to a TEXT.");
        for (String any : new String[] {"", "any . text ; [ / < >", "[F", "(D)V", "\u00C0\u0080"}) {
            Maker m = new Maker(52);
            m.string(any);
            CHECK.passes("STRING " + any, rest(m));
        }
    }

    private static void member(int kind, String name, String type, boolean right) {
        Maker m = new Maker(52);
        int k = m.two(kind, m.classOf("x"), m.named(name, type));
        CHECK.judged(kind + " " + name + " " + type, rest(m), right ? 0 : 10, m.place(k) + 3);
        m = new Maker(52);
        k = m.two(kind, m.classOf("[[I"), m.named(name, type));
        CHECK.judged(kind + " of an array " + name + " " + type, rest(m), right ? 0 : 10, m.place(k) + 3);
    }

    private static void members() {
        CHECK.says("FIELD, METHOD, OUTER to a CLASS, then a NAMED; then 10, at the second u2");
        for (int kind = 9; kind <= 11; kind++) {
            Maker m = new Maker(52);
            int k = m.two(kind, m.text("a"), 0);
            CHECK.breaks("to no CLASS, then to no NAMED " + kind, rest(m), 8, m.place(k) + 1);
            m = new Maker(52);
            int owner = m.classOf("[I");
            k = m.two(kind, owner, owner);
            CHECK.breaks("to no NAMED " + kind, rest(m), 8, m.place(k) + 3);
        }
        CHECK.says("a FIELD's is a plain name with a field's descriptor");
        for (String name : new String[] {"a", "<init>", "<clinit>"}) {
            for (String type : new String[] {"I", "[[Lx;", "()V", "()I", "(I)V"}) {
                member(9, name, type, name.equals("a") && type.charAt(0) != '(');
            }
        }
        CHECK.says("a METHOD's a plain name or <init> (with V) with a method's");
        for (String type : new String[] {"I", "[[Lx;", "()V", "()I", "(I)V", "(J)[J", "(LV;)LV;"}) {
            member(10, "a", type, type.charAt(0) == '(');
            member(10, "<init>", type, type.charAt(0) == '(' && type.endsWith(")V"));
            member(10, "<clinit>", type, false);
        }
        CHECK.says("an OUTER's a plain name with a method's");
        for (String type : new String[] {"I", "[[Lx;", "()V", "()I", "(I)V", "(J)[J"}) {
            member(11, "a", type, type.charAt(0) == '(');
            member(11, "<init>", type, false);
            member(11, "<clinit>", type, false);
        }
    }

    private static void namedNames() {
        CHECK.says("NAMED to a TEXT that is a plain name, <init> or <clinit> (9)");
        for (String name : new String[] {"<init>", "<clinit>", "init", "clinit", "a"}) {
            named(name, "I", 0, 1);
        }
        for (String name : new String[] {"<init", "init>", "<init>a", "a<init>", "<Init>", "<clinit", "clinit>", "<clinit>>", "<>",
            "<clini>", "<inita>", "()V/x", "(I/b", "()La/b;c/d", "()/"}) {
            named(name, "F", 9, 1);
        }
    }

    private static void named(String name, String type, int rule, int at) {
        Maker m = new Maker(52);
        int k = m.named(name, type);
        CHECK.judged("NAMED " + name + " " + type, rest(m), rule, m.place(k) + at);
    }

    private static void namedTypes() {
        CHECK.says("to a TEXT that is a descriptor (11)");
        for (String type : new String[] {"B", "[[[[[[[[I", "La;", "()V", "(I)V"}) {
            named("a", type, 0, 3);
            named("<init>", type, 0, 3);
            named("<clinit>", type, 0, 3);
        }
        for (String type : new String[] {"", "a", "V", "II", "I()V", "()", "La"}) {
            named("a", type, 11, 3);
            named("<init>", type, 11, 3);
            named("a/b", type, 9, 1);
        }
        Maker m = new Maker(52);
        int k = m.two(12, m.text("a/b"), 0);
        CHECK.breaks("a wrong name ahead of no TEXT", rest(m), 9, m.place(k) + 1);
        m = new Maker(52);
        k = m.two(12, 0, m.text("V"));
        CHECK.breaks("no TEXT ahead of a wrong descriptor", rest(m), 8, m.place(k) + 1);
    }

    private static void order() {
        CHECK.says("(First all of CLASS, STRING and NAMED, then those of FIELD, METHOD, OUTER; each by numbers.)");
        for (int member = 9; member <= 11; member++) {
            for (int other : new int[] {7, 8, 12}) {
                Maker m = new Maker(52);
                m.two(member, 0, 0);
                int k = other == 12 ? m.two(12, 0, 0) : m.one(other, 0);
                CHECK.breaks(other + " ahead of " + member, rest(m), 8, m.place(k) + 1);
            }
            for (int other = 9; other <= 11; other++) {
                Maker m = new Maker(52);
                int named = m.named("<clinit>", "I");
                int k = m.two(member, m.classOf("x"), named);
                m.two(other, 0, 0);
                CHECK.breaks(member + ", then " + other, rest(m), 10, m.place(k) + 3);
            }
        }
        for (int one : new int[] {7, 8, 12}) {
            for (int other : new int[] {7, 8, 12}) {
                Maker m = new Maker(52);
                int k = one == 12 ? m.two(12, 0, 0) : m.one(one, 0);
                m.raw(other == 12 ? new int[] {12, 0, 0, 0, 0} : new int[] {other, 0, 0});
                CHECK.breaks(one + ", then " + other, rest(m), 8, m.place(k) + 1);
            }
        }
        CHECK.says("Then entry by entry what they refer to");
        Maker m = new Maker(52);
        m.one(8, 0);
        int k = m.raw(2);
        CHECK.breaks("a KIND ahead of what an earlier one refers to", rest(m), 6, m.place(k));
        m = new Maker(52);
        m.one(7, 0);
        k = m.otherText(Maker.bytes('a', 0));
        CHECK.breaks("a TEXT ahead of what an earlier one refers to", rest(m), 5, m.place(k) + 4);
        m = new Maker(52);
        int text = m.text("x");
        int type = m.text("I");
        m.two(9, type + 2, type + 3);
        m.one(7, text);
        m.two(12, text, type);
        CHECK.passes("to later numbers", rest(m));
    }

    private static void plainNames() {
        CHECK.says("A plain name: one byte or more, none of . ; [ / < >.");
        named("", "I", 9, 1);
        for (char c : LETTERS.toCharArray()) {
            int rule = ".;[/<>".indexOf(c) < 0 ? 0 : 9;
            named("" + c, "I", rule, 1);
            named("a" + c, "I", rule, 1);
            named(c + "a", "I", rule, 1);
            named("ab" + c + "cd", "()V", rule, 1);
        }
        for (String type : new String[] {"La;", "[I", "[[La;", "()[I", "(La;)V", "()La/b;", "(La;", "(La;)", "([I", "[", "[[[[[[[[[I"}) {
            named(type, "I", 9, 1);
        }
        named("\u00C0\u0080", "I", 0, 1);
        named("\u00E0\u00A0\u0080\u00C2\u00BF", "I", 0, 1);
        named("x".repeat(3000), "I", 0, 1);
    }

    private static void fieldTypes() {
        CHECK.says("A field's descriptor: B C I J S Z, or L CLASS NAME ;");
        for (char c : LETTERS.toCharArray()) {
            int rule = "BCIJSZ".indexOf(c) >= 0 ? 0 : "FD".indexOf(c) >= 0 ? 12 : 11;
            named("a", "" + c, rule, 3);
            named("a", "I" + c, 11, 3);
            named("a", "L" + c + ";", ".;[/<>".indexOf(c) < 0 ? 0 : 11, 3);
            named("a", "La" + c, c == ';' ? 0 : 11, 3);
        }
        for (String right : new String[] {"La;", "La/b;", "La/b/c/F;", "LL;", "L(;", "L\u00C2\u0080;", "L" + "x".repeat(3000) + ";"}) {
            named("a", right, 0, 3);
        }
        for (String wrong : new String[] {"", "L", "L;", "L/;", "La", "La/;", "L/a;", "La//b;", "La;;", "La;I", "ILa;", "L[I;", "La.b;",
            "L<a>;", "V"}) {
            named("a", wrong, 11, 3);
        }
    }

    private static void brackets() {
        CHECK.says("behind up to 8 [.");
        for (int n = 0; n <= 10; n++) {
            String ahead = "[".repeat(n);
            for (String type : new String[] {"B", "C", "I", "J", "S", "Z", "La;"}) {
                named("a", ahead + type, n <= 8 ? 0 : 11, 3);
                named("a", "(" + ahead + type + ")V", n <= 8 ? 0 : 11, 3);
                named("a", "(I" + ahead + type + ")V", n <= 8 ? 0 : 11, 3);
                named("a", "()" + ahead + type, n <= 8 ? 0 : 11, 3);
            }
            named("a", ahead + "D", n <= 8 ? 12 : 11, 3);
            named("a", "(" + ahead + "F)V", n <= 8 ? 12 : 11, 3);
            named("a", "()" + ahead + "D", n <= 8 ? 12 : 11, 3);
            named("a", ahead, 11, 3);
            named("a", ahead + "V", 11, 3);
        }
    }

    private static void methodTypes() {
        CHECK.says("A method's: ( any of these ), then one or V");
        for (char c : LETTERS.toCharArray()) {
            int rule = "BCIJSZ".indexOf(c) >= 0 ? 0 : "FD".indexOf(c) >= 0 ? 12 : 11;
            named("a", "(" + c + ")V", rule, 3);
            named("a", "(I" + c + ")V", rule, 3);
            named("a", "()" + c, c == 'V' ? 0 : rule, 3);
            named("a", "()V" + c, 11, 3);
            named("a", "()I" + c, 11, 3);
            named("a", c + "()V", 11, 3);
        }
        for (String right : new String[] {"()V", "()I", "()[J", "()La;", "(IJ[[Lx;Z)La/b;", "(La;Lb;)V", "(L);)V", "(L(;)V", "()L);"}) {
            named("a", right, 0, 3);
        }
        for (String wrong : new String[] {"(", ")", "()", "(I", "(I)", "(V)V", "()[V", "(IV)V", "(()V)V", "(La)V", "(L;)V", "()La",
            "()L;", "(]V", "()()V", "(I)V)", "([)V", "(I[)V", "(La;", "(La;)"}) {
            named("a", wrong, 11, 3);
        }
    }

    private static void slots() {
        CHECK.says("the arguments take at most 250 SLOTS (J two)");
        String[] ones = {"B", "C", "I", "S", "Z", "La;", "[J", "[[J", "[I", "LJ;"};
        for (String one : ones) {
            named("a", "(" + one.repeat(249) + ")V", 0, 3);
            named("a", "(" + one.repeat(250) + ")V", 0, 3);
            named("a", "(" + one.repeat(251) + ")V", 11, 3);
            named("a", "(" + "J".repeat(124) + one.repeat(2) + ")J", 0, 3);
            named("a", "(" + one.repeat(3) + "J".repeat(124) + ")V", 11, 3);
        }
        named("a", "(" + "J".repeat(125) + ")V", 0, 3);
        named("a", "(" + "J".repeat(125) + ")J", 0, 3);
        named("a", "(" + "J".repeat(125) + "I)V", 11, 3);
        named("a", "(" + "J".repeat(126) + ")V", 11, 3);
        named("a", "(I" + "J".repeat(125) + ")V", 11, 3);
        named("a", "(" + "I".repeat(3000) + ")V", 11, 3);
    }

    private static void floats() {
        CHECK.says("Descriptors with F or D as types: 12 (at the u2 of the NAMED, a member's; of a CLASS that is an array, too)");
        for (String type : new String[] {"F", "D", "[F", "[[[[[[[[D", "(F)V", "(D)V", "()D", "()F", "()[F", "(ILx;[[[D)V", "(F)F",
            "([D[F)[D", "(IF)I", "(FI)I"}) {
            named("a", type, 12, 3);
            named("<init>", type, 12, 3);
        }
        for (String type : new String[] {"LF;", "(LD;)LF;", "[LaF;", "LFD;", "(LF;LD;)V"}) {
            named("F", type, 0, 3);
            named("D", type, 0, 3);
        }
        for (String name : new String[] {"[F", "[D", "[[[[[[[[D"}) {
            classOf(name, 12);
        }
        for (String name : new String[] {"F", "D", "F/D", "[LF;"}) {
            classOf(name, 0);
        }
        Maker m = new Maker(52).open(0x21).u2(1).member("f", 0, "f", "D").u2(0, 0, 0);
        CHECK.breaks("a field's", m.file(), 12, m.place("f.type"));
        m = new Maker(52).open(0x421).u2(0, 1).member("m", 0x400, "m", "(F)V").u2(0, 0);
        CHECK.breaks("a method's", m.file(), 12, m.place("m.type"));
    }

    private static void floatsElsewhereWrong() {
        CHECK.says("where else they would be right with them.");
        for (String type : new String[] {"FF", "FI", "DV", "(F", "(D)", "(FV)V", "(F)VF", "[[[[[[[[[D", "(L[F;)V", "()[[[[[[[[[F", "F;",
            "(F)V)", "F()V"}) {
            named("a", type, 11, 3);
        }
        named("a/b", "F", 9, 1);
        for (String wide : new String[] {"F", "D"}) {
            named("a", "(" + wide.repeat(250) + ")V", 12, 3);
            named("a", "(" + wide.repeat(251) + ")V", 11, 3);
        }
        named("a", "(" + "J".repeat(124) + "FF)V", 12, 3);
        named("a", "(" + "J".repeat(125) + "F)V", 11, 3);
        for (String name : new String[] {"[[[[[[[[[F", "[FF", "[F;", "[DV"}) {
            classOf(name, 9);
        }
        Maker m = new Maker(52).open(0x21).u2(1).member("f", 0, "f", "(F)V").u2(0, 0, 0);
        CHECK.breaks("a field's", m.file(), 11, m.place("f.type"));
        m = new Maker(52).open(0x421).u2(0, 1).member("m", 0x400, "m", "F").u2(0, 0);
        CHECK.breaks("a method's", m.file(), 11, m.place("m.type"));
    }

    /** What breaks off as a descriptor, as the very last bytes that a FILE can have. */
    private static void fullFile() {
        CHECK.says("What would be read beyond the end: RULE 1 (TEXTS and entries at the end of 4000 bytes)");
        for (String last : new String[] {"", "(", "[", "([", "L", "(L", "La", "()", "()[", "()L", "(I", "[[[[[[[[[", "<init>"}) {
            Maker m = new Maker(52);
            m.otherText("x".repeat(4000 - 10 - 3 - 3 - last.length()));
            m.otherText(last);
            CHECK.due("length", m.file().length, 4000);
            CHECK.breaks("the last bytes " + last, m.file(), 1, 4000);
        }
        for (int kind : new int[] {1, 3, 5, 7, 9}) {
            Maker m = new Maker(52);
            m.otherText("x".repeat(4000 - 10 - 3 - 1));
            m.raw(kind);
            CHECK.breaks("the last byte is KIND " + kind, m.file(), 1, 4000);
        }
    }
}
