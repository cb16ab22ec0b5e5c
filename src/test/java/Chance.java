import java.util.ArrayList;
import java.util.List;
import java.util.Random;

/** A class file by chance: right but for a slip here and there. */
final class Chance {
    private static final String[] NAMES = {"a", "b", "c", "d", "go", "x\u00C3\u00A9"};
    private static final String[] TYPES = {"I", "J", "Z", "B", "S", "C", "[I", "Lp/Q;", "[[Lp/Q;", "Ljava/lang/String;", "[[[J"};
    private static final String[] CALLS = {"()V", "(I)V", "(J)J", "(IJ)I", "([JLp/Q;)Lp/Q;", "(ZZZ)[I", "(JJJ)V"};
    private static final String[] WRONG = {"", "F", "D", "[D", "(F)V", "()D", "V", "(V)V", "L;", "<init>", "<clinit>", "a/b", "a.b",
        "<a>", "[[[[[[[[[I", "()", "(", "La", "[F", "[[V", "()VV", "J()V"};
    private static final int[] BARE = {0, 1, 2, 8, 9, 10, 46, 47, 50, 53, 79, 80, 83, 86, 87, 88, 89, 94, 95, 96, 97, 125, 131, 133,
        136, 145, 147, 148, 172, 173, 176, 177, 190, 191};

    private final Random chance;
    private final int slips;
    private final Maker m;
    private final List<Integer> numbers = new ArrayList<>();
    private final List<Integer> longs = new ArrayList<>();
    private final List<Integer> strings = new ArrayList<>();
    private final List<Integer> classes = new ArrayList<>();
    private final List<Integer> arrays = new ArrayList<>();
    private final List<Integer> fields = new ArrayList<>();
    private final List<Integer> methods = new ArrayList<>();
    private final List<Integer> outers = new ArrayList<>();
    private final List<String> outerTypes = new ArrayList<>();

    Chance(Random chance) {
        this.chance = chance;
        slips = new int[] {0, 150, 60}[chance.nextInt(3)];
        m = new Maker(slipped(45 + chance.nextInt(17)));
    }

    private boolean slip() {
        return slips > 0 && chance.nextInt(slips) == 0;
    }

    private int slipped(int right) {
        if (!slip()) {
            return right;
        }
        switch (chance.nextInt(4)) {
            case 0:
                return right + 1;
            case 1:
                return right - 1;
            case 2:
                return right ^ 1 << chance.nextInt(16);
            default:
                return chance.nextInt(400);
        }
    }

    private String pick(String[] from) {
        return slip() ? WRONG[chance.nextInt(WRONG.length)] : from[chance.nextInt(from.length)];
    }

    private int pick(List<Integer> from) {
        return slipped(from.isEmpty() ? 0 : from.get(chance.nextInt(from.size())));
    }

    byte[] file() {
        pool();
        boolean face = chance.nextInt(4) == 0;
        int[] flags = {0x21, 0, 1, 0x31, 0x421, 0x400};
        int classFlags = face ? 0x600 + chance.nextInt(2) : flags[chance.nextInt(flags.length)];
        m.u2(slipped(classFlags)).u2(slipped(m.classOf("A")));
        m.u2(slipped(m.classOf(face || slip() ? "java/lang/Object" : pick(new String[] {"p/Q", "java/lang/Object"}))));
        int many = chance.nextInt(3);
        m.u2(slipped(many));
        for (int i = 0; i < many; i++) {
            m.u2(slipped(m.classOf(slip() ? "I0" : "I" + i)));
        }
        many = chance.nextInt(4);
        m.u2(slipped(many));
        for (int i = 0; i < many; i++) {
            field(face, i);
        }
        many = chance.nextInt(4);
        m.u2(slipped(many));
        for (int i = 0; i < many; i++) {
            method(face, classFlags, i);
        }
        many = chance.nextInt(2);
        m.u2(slipped(many));
        for (int i = 0; i < many; i++) {
            m.u2(slipped(m.text(slip() ? "Code" : "SourceFile"))).u4(slipped(2)).u2(slipped(m.text("A.java")));
        }
        if (slip()) {
            m.u1(0);
        }
        return m.file();
    }

    private void pool() {
        m.text("never asked for");
        for (int i = 0; i < 1 + chance.nextInt(3); i++) {
            numbers.add(m.number(chance.nextInt()));
            longs.add(m.longNumber(chance.nextLong()));
            strings.add(m.one(8, slipped(m.text(pick(NAMES)))));
            classes.add(m.one(7, slipped(m.text(pick(new String[] {"A", "p/Q", "p/R", "java/lang/Object"})))));
            arrays.add(m.one(7, slipped(m.text(pick(new String[] {"[I", "[[Lp/Q;", "[[[J"})))));
            fields.add(member(9, pick(NAMES), pick(TYPES)));
            methods.add(member(10, pick(NAMES), pick(CALLS)));
            methods.add(member(10, "<init>", pick(new String[] {"()V", "(I)V"})));
            String type = CALLS[chance.nextInt(CALLS.length)];
            outers.add(member(11, pick(NAMES), type));
            outerTypes.add(type);
        }
        if (slip()) {
            m.raw(chance.nextInt(30), 0, 1, 'x');
        }
    }

    private int member(int kind, String name, String type) {
        int named = m.two(12, slipped(m.text(name)), slipped(m.text(type)));
        return m.two(kind, slipped(classes.get(0)), slipped(named));
    }

    private void field(boolean face, int i) {
        int[] flags = {0, 1, 2, 4, 8, 0x18, 0x19, 0x8A, 0x94};
        int f = slipped(face ? 0x19 : flags[chance.nextInt(flags.length)]);
        String type = pick(TYPES);
        m.u2(f).u2(slipped(m.text(slip() ? pick(NAMES) : "f" + i))).u2(slipped(m.text(type)));
        boolean valued = (f & 8) != 0 && (type.length() == 1 || type.endsWith("String;")) && chance.nextBoolean();
        m.u2(slipped(valued ? 1 : 0));
        if (valued) {
            List<Integer> from = type.equals("J") ? longs : type.length() == 1 ? numbers : strings;
            m.u2(slipped(m.text(slip() ? "Other" : "ConstantValue"))).u4(slipped(2)).u2(pick(from));
        }
    }

    private void method(boolean face, int classFlags, int i) {
        int[] plain = {0, 1, 2, 4, 8, 9, 0x11, 0x18};
        int[] faced = {1, 2, 9, 0x0A, 0x401};
        int[] loose = {0x400, 0x401, 0x404, 0, 1, 8};
        int[] from = face ? faced : (classFlags & 0x400) != 0 ? loose : plain;
        int f = slipped(from[chance.nextInt(from.length)]);
        String type = pick(CALLS);
        String name = slip() ? pick(NAMES) : "m" + i;
        if (chance.nextInt(8) == 0) {
            name = "<init>";
            type = slip() ? type : "(J)V";
            f &= slip() ? -1 : 7;
        }
        m.u2(f).u2(slipped(m.text(name))).u2(slipped(m.text(type)));
        boolean coded = (f & 0x400) == 0 ^ slip();
        boolean throwing = chance.nextInt(3) == 0;
        m.u2(slipped((coded ? 1 : 0) + (throwing ? 1 : 0)));
        if (throwing) {
            int many = chance.nextInt(3);
            m.u2(slipped(m.text("Exceptions"))).u4(slipped(2 + 2 * many)).u2(slipped(many));
            for (int k = 0; k < many; k++) {
                m.u2(pick(classes));
            }
        }
        if (coded) {
            code();
        }
    }

    private static final class Step {
        final int[] bytes;
        final int[] jumps;
        final boolean far;

        Step(int[] bytes, boolean far, int... jumps) {
            this.bytes = bytes;
            this.far = far;
            this.jumps = jumps;
        }
    }

    private void code() {
        List<Step> steps = new ArrayList<>();
        List<Integer> pcs = new ArrayList<>();
        int pc = 0;
        int many = chance.nextInt(14);
        for (int i = 0; i <= many; i++) {
            Step step = i < many ? step(pc) : last(pc);
            steps.add(step);
            pcs.add(pc);
            pc += step.bytes.length;
        }
        int[] code = new int[pc];
        for (int i = 0; i <= many; i++) {
            Step step = steps.get(i);
            for (int jump : step.jumps) {
                int offset = slipped(pcs.get(chance.nextInt(pcs.size())) - pcs.get(i));
                int width = step.far ? 4 : 2;
                for (int b = 0; b < width; b++) {
                    step.bytes[jump + b] = offset >> (8 * (width - 1 - b)) & 255;
                }
            }
            System.arraycopy(step.bytes, 0, code, pcs.get(i), step.bytes.length);
        }
        int rows = chance.nextInt(3);
        m.u2(slipped(m.text("Code"))).u4(slipped(12 + pc + 8 * rows));
        m.u2(slipped(4), slipped(10)).u4(slipped(pc)).u1(code).u2(slipped(rows));
        for (int i = 0; i < rows; i++) {
            int from = chance.nextInt(pcs.size());
            int to = from + 1 + chance.nextInt(pcs.size() - from);
            int end = to == pcs.size() ? pc : pcs.get(to);
            int handler = pcs.get(chance.nextInt(pcs.size()));
            m.u2(slipped(pcs.get(from)), slipped(end), slipped(handler), chance.nextBoolean() ? slipped(0) : pick(classes));
        }
        m.u2(slipped(0));
    }

    private Step last(int pc) {
        int[] ends = {172, 173, 176, 177, 191};
        switch (chance.nextInt(5)) {
            case 0:
                return new Step(new int[] {167, 0, 0}, false, 1);
            case 1:
                return new Step(new int[] {200, 0, 0, 0, 0}, true, 1);
            case 2:
                return ways(pc);
            default:
                return new Step(new int[] {slip() ? 0 : ends[chance.nextInt(ends.length)]}, false);
        }
    }

    private Step step(int pc) {
        if (slip()) {
            return new Step(new int[] {chance.nextInt(256), chance.nextInt(4), chance.nextInt(4)}, false);
        }
        int local = slipped(chance.nextInt(9)) & 255;
        int[] ops = {21, 22, 25, 54, 55, 58};
        int op = ops[chance.nextInt(ops.length)];
        switch (chance.nextInt(14)) {
            case 0:
                int branch = 153 + chance.nextInt(15);
                return new Step(new int[] {chance.nextInt(4) == 0 ? 198 + chance.nextInt(2) : branch, 0, 0}, false, 1);
            case 1:
                return ways(pc);
            case 2:
                return new Step(new int[] {op, local}, false);
            case 3:
                int[] inCode = {26, 30, 42, 59, 63, 75};
                return new Step(new int[] {inCode[chance.nextInt(6)] + chance.nextInt(4)}, false);
            case 4:
                return new Step(chance.nextBoolean() ? new int[] {132, local, 7} : new int[] {196, 132, slipped(0) & 255, local, 1, 1}, false);
            case 5:
                return new Step(new int[] {196, slipped(op) & 255, slipped(0) & 255, local}, false);
            case 6:
                return constant();
            case 7:
                return of(178 + chance.nextInt(4), pick(fields));
            case 8:
                return of(slip() ? 182 + chance.nextInt(3) : 183, pick(chance.nextInt(6) == 0 ? outers : methods));
            case 9:
                return outerCall();
            case 10:
                int[] typed = {187, 189, 192, 193};
                return of(typed[chance.nextInt(4)], pick(slip() ? arrays : classes));
            case 11:
                int k = pick(arrays);
                return new Step(new int[] {197, k >> 8, k & 255, slipped(1) & 255}, false);
            case 12:
                int[] kinds = {4, 5, 8, 9, 10, 11};
                return new Step(new int[] {188, slipped(kinds[chance.nextInt(6)]) & 255}, false);
            default:
                return new Step(new int[] {BARE[chance.nextInt(BARE.length)]}, false);
        }
    }

    private Step of(int op, int k) {
        return new Step(new int[] {op, k >> 8 & 255, k & 255}, false);
    }

    private Step constant() {
        switch (chance.nextInt(4)) {
            case 0:
                return new Step(new int[] {18, pick(chance.nextBoolean() ? numbers : strings) & 255}, false);
            case 1:
                return of(19, pick(chance.nextBoolean() ? classes : arrays));
            case 2:
                return of(20, pick(longs));
            default:
                return new Step(chance.nextBoolean() ? new int[] {16, 99} : new int[] {17, 99, 99}, false);
        }
    }

    private Step outerCall() {
        int i = chance.nextInt(outers.size());
        int k = slipped(outers.get(i));
        int[] slots = {0, 1, 2, 3, 2, 3, 6};
        int many = 0;
        for (int t = 0; t < CALLS.length; t++) {
            many = CALLS[t].equals(outerTypes.get(i)) ? slots[t] : many;
        }
        return new Step(new int[] {185, k >> 8 & 255, k & 255, slipped(many + 1) & 255, slipped(0) & 255}, false);
    }

    private Step ways(int pc) {
        boolean table = chance.nextBoolean();
        int many = chance.nextInt(4) + (table ? 1 : 0);
        int at = (pc / 4 + 1) * 4 - pc;
        int[] bytes = new int[at + (table ? 12 + 4 * many : 8 + 8 * many)];
        int[] jumps = new int[1 + many];
        bytes[0] = table ? 170 : 171;
        jumps[0] = at;
        if (at > 1) {
            bytes[1] = slipped(0) & 255;
        }
        int low = chance.nextInt(9) - 4;
        if (table) {
            put(bytes, at + 4, low);
            put(bytes, at + 8, slipped(low + many - 1));
        } else {
            put(bytes, at + 4, slipped(many));
        }
        for (int i = 0; i < many; i++) {
            if (!table) {
                put(bytes, at + 8 + 8 * i, slipped(low + 2 * i));
            }
            jumps[1 + i] = at + (table ? 12 + 4 * i : 12 + 8 * i);
        }
        return new Step(bytes, true, jumps);
    }

    private static void put(int[] bytes, int at, int value) {
        for (int b = 0; b < 4; b++) {
            bytes[at + b] = value >> (24 - 8 * b) & 255;
        }
    }
}
