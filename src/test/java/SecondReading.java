import java.nio.charset.StandardCharsets;
import java.util.ArrayList;
import java.util.HashSet;
import java.util.List;
import java.util.Set;
import java.util.TreeSet;
import java.util.regex.Pattern;

/**
 * The document read a second time, in another way (names of instructions, patterns for texts, an
 * exception for the first broken rule), so that the two can be held against each other.
 */
final class SecondReading {
    static final String[] NAMES = ("nop aconst_null iconst_m1 iconst_0 iconst_1 iconst_2 iconst_3 iconst_4 iconst_5 "
        + "lconst_0 lconst_1 fconst_0 fconst_1 fconst_2 dconst_0 dconst_1 bipush sipush ldc ldc_w ldc2_w iload lload fload "
        + "dload aload iload_0 iload_1 iload_2 iload_3 lload_0 lload_1 lload_2 lload_3 fload_0 fload_1 fload_2 fload_3 "
        + "dload_0 dload_1 dload_2 dload_3 aload_0 aload_1 aload_2 aload_3 iaload laload faload daload aaload baload caload "
        + "saload istore lstore fstore dstore astore istore_0 istore_1 istore_2 istore_3 lstore_0 lstore_1 lstore_2 lstore_3 "
        + "fstore_0 fstore_1 fstore_2 fstore_3 dstore_0 dstore_1 dstore_2 dstore_3 astore_0 astore_1 astore_2 astore_3 "
        + "iastore lastore fastore dastore aastore bastore castore sastore pop pop2 dup dup_x1 dup_x2 dup2 dup2_x1 dup2_x2 "
        + "swap iadd ladd fadd dadd isub lsub fsub dsub imul lmul fmul dmul idiv ldiv fdiv ddiv irem lrem frem drem ineg "
        + "lneg fneg dneg ishl lshl ishr lshr iushr lushr iand land ior lor ixor lxor iinc i2l i2f i2d l2i l2f l2d f2i f2l "
        + "f2d d2i d2l d2f i2b i2c i2s lcmp fcmpl fcmpg dcmpl dcmpg ifeq ifne iflt ifge ifgt ifle if_icmpeq if_icmpne "
        + "if_icmplt if_icmpge if_icmpgt if_icmple if_acmpeq if_acmpne goto jsr ret tableswitch lookupswitch ireturn lreturn "
        + "freturn dreturn areturn return getstatic putstatic getfield putfield invokevirtual invokespecial invokestatic "
        + "invokeinterface invokedynamic new newarray anewarray arraylength athrow checkcast instanceof monitorenter "
        + "monitorexit wide multianewarray ifnull ifnonnull goto_w jsr_w").split(" ");

    private static final String PLAIN = "[^.;\\[/<>]++";
    private static final String PATH = PLAIN + "(?:/" + PLAIN + ")*+";
    private static final String TYPE = "\\[{0,8}+(?:[BCIJSZ]|L" + PATH + ";)";
    private static final String LOOSE = "\\[{0,8}+(?:[BCDFIJSZ]|L" + PATH + ";)";
    private static final Pattern PLAIN_NAME = whole(PLAIN);
    private static final Pattern CLASS_NAME = whole(PATH);
    private static final Pattern FIELD_TYPE = whole(TYPE);
    private static final Pattern FIELD_LOOSE = whole(LOOSE);
    private static final Pattern METHOD_TYPE = whole("\\((?:" + TYPE + ")*+\\)(?:V|" + TYPE + ")");
    private static final Pattern METHOD_LOOSE = whole("\\((?:" + LOOSE + ")*+\\)(?:V|" + LOOSE + ")");
    private static final Pattern ONE_TYPE = Pattern.compile(LOOSE, Pattern.DOTALL);

    /** What ends the way: the first rule that is broken. */
    private static final class Broken extends Exception {
        private static final long serialVersionUID = 1;
        final int rule;
        final int place;

        Broken(int rule, int place) {
            super(null, null, false, false);
            this.rule = rule;
            this.place = place;
        }
    }

    private final byte[] file;
    private int at;
    private int version;
    private int[] kinds = new int[0];
    private int[] wheres = new int[0];
    private String[] texts = new String[0];
    private int flags;

    int rule;
    int place;
    final int[] told = new int[9];
    final List<int[]> methods = new ArrayList<>();

    SecondReading(byte[] file) {
        this.file = file;
        try {
            everything();
        } catch (Broken broken) {
            rule = broken.rule;
            place = broken.place;
        }
    }

    int judged() {
        return rule == 0 ? 0 : 1 + place;
    }

    int kind(int k) {
        return kinds[k];
    }

    private static Pattern whole(String regex) {
        return Pattern.compile(regex, Pattern.DOTALL);
    }

    private static void must(boolean holds, int rule, int place) throws Broken {
        if (!holds) {
            throw new Broken(rule, place);
        }
    }

    private long read(int n) throws Broken {
        must(at + n <= file.length, 1, file.length);
        long value = 0;
        for (int i = 0; i < n; i++) {
            value = value * 256 + (file[at++] & 255);
        }
        return value;
    }

    private int u2() throws Broken {
        return (int) read(2);
    }

    private int peek2(int where) {
        return (file[where] & 255) * 256 + (file[where + 1] & 255);
    }

    private void everything() throws Broken {
        must(read(4) == 0xCAFEBABEL, 2, 0);
        must(u2() == 0, 3, 4);
        version = u2();
        must(version >= 45 && version <= 61, 3, 6);
        pool();
        links();
        theClass();
        fields();
        theMethods();
        int n = u2();
        for (int i = 0; i < n; i++) {
            int where = at;
            String name = attributeName();
            int sizeAt = at;
            long size = read(4);
            must(name.equals("SourceFile") && i == 0, 19, where);
            int start = at;
            textAt();
            must(at - start == size, 18, sizeAt);
        }
        must(at == file.length, 29, at);
        told[8] = flags;
    }

    private void pool() throws Broken {
        int n = u2();
        must(n >= 1 && n <= 300, 4, 8);
        told[0] = n;
        kinds = new int[n];
        wheres = new int[n];
        texts = new String[n];
        for (int k = 1; k < n; k++) {
            wheres[k] = at;
            kinds[k] = (int) read(1);
            int where = at - 1;
            if (kinds[k] == 1) {
                texts[k] = letters();
            } else if (kinds[k] == 3) {
                read(4);
            } else if (kinds[k] == 5) {
                read(4);
                read(4);
                must(k != n - 1, 4, where);
                k++;
            } else if (kinds[k] == 7 || kinds[k] == 8) {
                read(2);
            } else if (kinds[k] >= 9 && kinds[k] <= 12) {
                read(2);
                read(2);
            } else {
                boolean seven = Set.of(4, 6, 15, 16, 17, 18, 19, 20).contains(kinds[k]);
                throw new Broken(seven ? 7 : 6, where);
            }
        }
    }

    private String letters() throws Broken {
        int sizeAt = at;
        int end = sizeAt + 2 + u2();
        int start = at;
        while (at < end) {
            int first = (int) read(1);
            int more = first >= 1 && first <= 0x7F ? 0 : first == 0xC0 || first >= 0xC2 && first <= 0xDF ? 1
                : first >= 0xE0 && first <= 0xEF ? 2 : -1;
            must(more >= 0, 5, at - 1);
            for (int i = 1; i <= more; i++) {
                must(at < end, 5, sizeAt);
                int next = (int) read(1);
                boolean right = next >= 0x80 && next <= 0xBF;
                if (i == 1 && first == 0xC0) {
                    right = next == 0x80;
                }
                if (i == 1 && first == 0xE0) {
                    right = next >= 0xA0 && next <= 0xBF;
                }
                must(right, 5, at - 1);
            }
        }
        return new String(file, start, end - start, StandardCharsets.ISO_8859_1);
    }

    private int to(int where, int kind) throws Broken {
        int k = peek2(where);
        must(k > 0 && k < kinds.length && kinds[k] == kind, 8, where);
        return k;
    }

    private static boolean isPlain(String s) {
        return PLAIN_NAME.matcher(s).matches();
    }

    private static int slots(String type) {
        int many = 0;
        java.util.regex.Matcher m = ONE_TYPE.matcher(type);
        int i = 1;
        while (type.charAt(i) != ')') {
            m.region(i, type.length());
            m.lookingAt();
            many += m.group().equals("J") ? 2 : 1;
            i = m.end();
        }
        return many;
    }

    private static boolean isField(String s) {
        return FIELD_TYPE.matcher(s).matches();
    }

    private static boolean isMethod(String s) {
        return METHOD_TYPE.matcher(s).matches() && slots(s) <= 250;
    }

    private static boolean isLooseMethod(String s) {
        return METHOD_LOOSE.matcher(s).matches() && slots(s) <= 250;
    }

    private void links() throws Broken {
        for (int k = 1; k < kinds.length; k++) {
            int where = wheres[k] + 1;
            if (kinds[k] == 7) {
                String s = texts[to(where, 1)];
                if (!CLASS_NAME.matcher(s).matches()) {
                    boolean loose = s.startsWith("[") && FIELD_LOOSE.matcher(s).matches();
                    must(loose, 9, where);
                    must(isField(s), 12, where);
                }
            } else if (kinds[k] == 8) {
                to(where, 1);
            } else if (kinds[k] == 12) {
                String name = texts[to(where, 1)];
                must(isPlain(name) || name.equals("<init>") || name.equals("<clinit>"), 9, where);
                String type = texts[to(where + 2, 1)];
                must(FIELD_LOOSE.matcher(type).matches() || isLooseMethod(type), 11, where + 2);
                must(isField(type) || isMethod(type), 12, where + 2);
            }
        }
        for (int k = 1; k < kinds.length; k++) {
            int where = wheres[k] + 1;
            if (kinds[k] >= 9 && kinds[k] <= 11) {
                to(where, 7);
                to(where + 2, 12);
                String name = memberName(k);
                String type = memberType(k);
                boolean right = isPlain(name) && (kinds[k] == 9 ? isField(type) : isMethod(type));
                right |= kinds[k] == 10 && name.equals("<init>") && isMethod(type) && type.endsWith(")V");
                must(right, 10, where + 2);
            }
        }
    }

    private String memberName(int k) {
        return texts[peek2(wheres[peek2(wheres[k] + 3)] + 1)];
    }

    private String memberType(int k) {
        return texts[peek2(wheres[peek2(wheres[k] + 3)] + 3)];
    }

    private String className(int k) {
        return texts[peek2(wheres[k] + 1)];
    }

    private String textAt() throws Broken {
        read(2);
        return texts[to(at - 2, 1)];
    }

    private String attributeName() throws Broken {
        return textAt();
    }

    private String noArray() throws Broken {
        read(2);
        String s = className(to(at - 2, 7));
        must(!s.startsWith("["), 9, at - 2);
        return s;
    }

    private boolean has(int bits) {
        return (flags & bits) == bits;
    }

    private void theClass() throws Broken {
        flags = u2();
        Set<Integer> right = new HashSet<>();
        for (int f : new int[] {0, 0x10, 0x20, 0x30, 0x400, 0x420, 0x600}) {
            right.add(f);
            right.add(f + 1);
        }
        must(right.contains(flags), 13, at - 2);
        String self = noArray();
        String above = noArray();
        must(!self.equals(above), 14, at - 2);
        must(!has(0x200) || above.equals("java/lang/Object"), 14, at - 2);
        int n = u2();
        must(n <= 20, 15, at - 2);
        told[1] = n;
        Set<String> seen = new HashSet<>();
        for (int i = 0; i < n; i++) {
            must(seen.add(noArray()), 16, at - 2);
        }
    }

    private void fields() throws Broken {
        int n = u2();
        must(n <= 60, 15, at - 2);
        told[2] = n;
        Set<String> seen = new HashSet<>();
        for (int i = 0; i < n; i++) {
            int where = at;
            int f = u2();
            must(has(0x200) ? f == 0x19 : (f & 0x9F) == f && Set.of(0, 1, 2, 4).contains(f & 7), 13, where);
            String name = textAt();
            must(isPlain(name), 9, where + 2);
            String type = textAt();
            must(FIELD_LOOSE.matcher(type).matches(), 11, where + 4);
            must(isField(type), 12, where + 4);
            must(seen.add(name + ";" + type), 16, where);
            fieldAttributes(f, type);
        }
    }

    private void fieldAttributes(int f, String type) throws Broken {
        int n = u2();
        for (int i = 0; i < n; i++) {
            int where = at;
            String name = attributeName();
            int sizeAt = at;
            long size = read(4);
            must(name.equals("ConstantValue") && (f & 8) != 0 && i == 0, 19, where);
            int start = at;
            int k = u2();
            int kind = k > 0 && k < kinds.length ? kinds[k] : 0;
            String due = kind == 3 ? "B C I S Z" : kind == 5 ? "J" : kind == 8 ? "Ljava/lang/String;" : "";
            must(List.of(due.split(" ")).contains(type), 8, at - 2);
            must(at - start == size, 18, sizeAt);
        }
    }

    private void theMethods() throws Broken {
        int n = u2();
        must(n <= 60, 15, at - 2);
        told[3] = n;
        Set<String> seen = new HashSet<>();
        for (int i = 0; i < n; i++) {
            int where = at;
            int f = u2();
            must((f & 0x41F) == f && Set.of(0, 1, 2, 4).contains(f & 7), 13, where);
            must((f & 0x400) == 0 || (f & 2) == 0 && (f & 8) == 0 && (f & 0x10) == 0, 13, where);
            must(!has(0x200) || (f & 3) != 0 && (f & 0x10) == 0, 13, where);
            must(has(0x400) || (f & 0x400) == 0, 13, where);
            String name = textAt();
            boolean init = name.equals("<init>");
            boolean clinit = name.equals("<clinit>");
            must(init || clinit || isPlain(name), 9, where + 2);
            String type = textAt();
            must(isLooseMethod(type), 11, where + 4);
            must(isMethod(type), 12, where + 4);
            must(!init || !has(0x200) && type.endsWith(")V") && (f & 0x418) == 0, 17, where + 2);
            must(!clinit || f == 8 && type.equals("()V"), 17, where + 2);
            must(seen.add(name + ";" + type), 16, where);
            int[] facts = {f, slots(type), 0, 0, 0, 0};
            methods.add(facts);
            methodAttributes(f, type, facts, where);
        }
    }

    private void methodAttributes(int f, String type, int[] facts, int flagsAt) throws Broken {
        int n = u2();
        Set<String> seen = new HashSet<>();
        for (int i = 0; i < n; i++) {
            int where = at;
            String name = attributeName();
            int sizeAt = at;
            long size = read(4);
            boolean may = name.equals("Exceptions") || name.equals("Code") && (f & 0x400) == 0;
            must(may && seen.add(name), 19, where);
            int start = at;
            if (name.equals("Code")) {
                code(slots(type) + ((f & 8) == 0 ? 1 : 0), facts);
            } else {
                facts[5] = u2();
                for (int k = 0; k < facts[5]; k++) {
                    read(2);
                    to(at - 2, 7);
                }
            }
            must(at - start == size, 18, sizeAt);
        }
        must((f & 0x400) != 0 || seen.contains("Code"), 20, flagsAt);
    }

    // The CODE that is gone along: where it begins and ends, and how many locals it has.
    private int base;
    private int end;
    private int locals;
    private final TreeSet<Integer> firsts = new TreeSet<>();
    private final List<int[]> aims = new ArrayList<>();

    private void code(int least, int[] facts) throws Broken {
        facts[2] = u2();
        must(facts[2] <= 255, 15, at - 2);
        locals = u2();
        facts[3] = locals;
        must(locals <= 255, 15, at - 2);
        must(locals >= least, 21, at - 2);
        long size = read(4);
        must(size >= 1 && size <= 2000, 15, at - 4);
        must(at + size <= file.length, 1, file.length);
        base = at;
        end = at + (int) size;
        firsts.clear();
        aims.clear();
        while (at < end) {
            firsts.add(at - base);
            instruction();
        }
        for (int[] aim : aims) {
            must(firsts.contains(aim[1]), 26, base + aim[0]);
        }
        int last = base + firsts.last();
        String name = NAMES[file[last] & 255];
        must(Set.of("goto", "goto_w", "tableswitch", "lookupswitch", "ireturn", "lreturn", "areturn", "return", "athrow")
            .contains(name), 27, last);
        facts[4] = firsts.size();
        told[4] += firsts.size();
        told[5] += size;
        told[6] += aims.size();
        rows((int) size);
    }

    private void rows(int size) throws Broken {
        int n = u2();
        must(n <= 30, 15, at - 2);
        told[7] += n;
        for (int i = 0; i < n; i++) {
            int where = at;
            int from = u2();
            int to = u2();
            int handler = u2();
            int caught = u2();
            must(from < to, 28, where);
            must(firsts.contains(from) && firsts.contains(handler), 28, where);
            must(firsts.contains(to) || to == size, 28, where);
            if (caught != 0) {
                to(where + 6, 7);
            }
        }
        must(u2() == 0, 19, at - 2);
    }

    /** A part of the INSTRUCTION at where. */
    private int part(int n, int where) throws Broken {
        must(at + n <= end, 25, where);
        return (int) read(n);
    }

    private int kindOf(int k) {
        return k > 0 && k < kinds.length ? kinds[k] : 0;
    }

    private void local(int number, String name, int where) throws Broken {
        must(number < locals && (name.charAt(0) != 'l' || number + 1 < locals), 23, where);
    }

    private void goes(int where, int offset) {
        aims.add(new int[] {where - base, where - base + offset});
    }

    private void instruction() throws Broken {
        int where = at;
        int op = (int) read(1);
        String name = op < NAMES.length ? NAMES[op] : "f";
        boolean floating = (name.startsWith("f") || name.startsWith("d")) && !name.startsWith("dup");
        floating |= name.endsWith("2f") || name.endsWith("2d");
        must(!floating, 22, where);
        must(!Set.of("jsr", "ret", "jsr_w", "monitorenter", "monitorexit", "invokedynamic").contains(name), 22, where);
        if (name.equals("wide")) {
            wide(where);
        } else if (name.equals("tableswitch") || name.equals("lookupswitch")) {
            ways(where, name);
        } else if (name.startsWith("if") || name.equals("goto")) {
            goes(where, (short) part(2, where));
        } else if (name.equals("goto_w")) {
            goes(where, part(4, where));
        } else if (name.matches("[ila](load|store)_[0-3]")) {
            local(name.charAt(name.length() - 1) - '0', name, where);
        } else if (name.matches("[ila](load|store)")) {
            local(part(1, where), name, where);
        } else if (name.equals("iinc")) {
            int number = part(2, where) >> 8;
            local(number, name, where);
        } else if (name.equals("bipush")) {
            part(1, where);
        } else if (name.equals("sipush")) {
            part(2, where);
        } else if (name.equals("newarray")) {
            must(Set.of(4, 5, 8, 9, 10, 11).contains(part(1, where)), 24, where);
        } else {
            ofPool(where, name);
        }
    }

    private void wide(int where) throws Broken {
        int op = part(1, where);
        String name = op < NAMES.length ? NAMES[op] : "f";
        must(name.matches("[ila](load|store)|iinc"), 22, where);
        int number = name.equals("iinc") ? (int) (long) part(4, where) >>> 16 : part(2, where);
        local(number, name, where);
    }

    private void ofPool(int where, String name) throws Broken {
        if (name.startsWith("ldc")) {
            int kind = kindOf(part(name.equals("ldc") ? 1 : 2, where));
            must(name.equals("ldc2_w") ? kind == 5 : Set.of(3, 7, 8).contains(kind), 8, where);
        } else if (name.startsWith("get") || name.startsWith("put")) {
            must(kindOf(part(2, where)) == 9, 8, where);
        } else if (name.equals("invokeinterface")) {
            must(at + 4 <= end, 25, where);
            int k = part(2, where);
            must(kindOf(k) == 11, 8, where);
            must(part(1, where) == slots(memberType(k)) + 1, 24, where);
            must(part(1, where) == 0, 24, where);
        } else if (name.startsWith("invoke")) {
            int k = part(2, where);
            boolean outer = kindOf(k) == 11 && version >= 52 && !name.equals("invokevirtual");
            must(kindOf(k) == 10 || outer, 8, where);
            must(!memberName(k).equals("<init>") || name.equals("invokespecial"), 24, where);
        } else if (Set.of("new", "anewarray", "checkcast", "instanceof").contains(name)) {
            int k = part(2, where);
            must(kindOf(k) == 7, 8, where);
            must(!name.equals("new") || !className(k).startsWith("["), 24, where);
        } else if (name.equals("multianewarray")) {
            int both = part(3, where);
            must(kindOf(both >> 8) == 7, 8, where);
            int n = both & 255;
            must(n > 0 && className(both >> 8).startsWith("[".repeat(n)), 24, where);
        }
    }

    private void ways(int where, String name) throws Broken {
        while ((at - base) % 4 != 0) {
            must(part(1, where) == 0, 24, where);
        }
        goes(where, part(4, where));
        if (name.equals("tableswitch")) {
            long low = part(4, where);
            long high = part(4, where);
            must(low <= high && high - low < 500, 24, where);
            for (long i = low; i <= high; i++) {
                goes(where, part(4, where));
            }
        } else {
            int pairs = part(4, where);
            must(pairs >= 0 && pairs <= 250, 24, where);
            long before = Long.MIN_VALUE;
            for (int i = 0; i < pairs; i++) {
                int key = part(4, where);
                must(key > before, 24, where);
                before = key;
                goes(where, part(4, where));
            }
        }
    }
}
