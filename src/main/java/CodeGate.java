/**
 * A gate for contracts' class files: the FILE is read from the first byte on, and the first rule
 * that is broken is told, with the place of it. RULES bear the numbers of the document.
 */
public final class CodeGate {
    public static final int BAD = -1, FULL = -2;

    private static final int MOST_FED = 16;

    private final Walk walk;
    private final Gate gate;
    private final Report latest;

    public CodeGate() {
        walk = new Walk();
        gate = new Gate(walk);
        latest = new Report();
    }

    public int feed(int a, int b, int c, int d, int n) {
        if (n < 1 || n > MOST_FED) {
            return BAD;
        }
        if (walk.length + n > Walk.ROOM) {
            return FULL;
        }
        for (int i = 0; i < n; i++) {
            int word = i < 4 ? a : i < 8 ? b : i < 12 ? c : d;
            walk.append(word >> (24 - 8 * (i & 3)));
        }
        return walk.length;
    }

    public int cut(int n) {
        if (n < 0 || n > walk.length) {
            return BAD;
        }
        walk.length -= n;
        return walk.length;
    }

    public int turn(int i, int b) {
        if (i < 0 || i >= walk.length) {
            return BAD;
        }
        walk.flip(i, b);
        return walk.numberAt(i, 1);
    }

    public int byteAt(int i) {
        return i < 0 || i >= walk.length ? BAD : walk.numberAt(i, 1);
    }

    public int judge() {
        latest.keep(gate, gate.passes(), walk.broken);
        return walk.sound() ? 0 : 1 + walk.place;
    }

    public int rule() {
        return latest.broken;
    }

    public int told(int what) {
        if (!latest.passed || what < 0 || what >= Gate.TALLIES) {
            return BAD;
        }
        return latest.tally[what];
    }

    public int method(int k, int what) {
        if (!latest.passed || k < 0 || k >= latest.tally[Gate.METHODS] || k >= Gate.MOST_MEMBERS) {
            return BAD;
        }
        if (what < 0 || what >= Gate.METHOD_FACTS) {
            return BAD;
        }
        return latest.methodRows[k * Gate.METHOD_FACTS + what];
    }

    public int entry(int k) {
        if (!latest.passed || k < 1 || k >= latest.tally[Gate.NUMBERS] || k >= Pool.MOST) {
            return BAD;
        }
        return latest.kinds[k];
    }

    public int guarded(int mask) {
        if (mask < 1 || mask > 255 || !gate.passes()) {
            return BAD;
        }
        int many = 0;
        for (int i = 0; i < walk.length; i++) {
            walk.flip(i, mask);
            if (!gate.passes()) {
                many++;
            }
            walk.flip(i, mask);
        }
        return many;
    }

    /**
     * A FILE that passes is read byte by byte to its end, and no rule but 1 and 29 looks at its
     * length: so each of its beginnings is gone along in the same way until a byte is missing.
     */
    public int beginnings() {
        return gate.passes() ? walk.length : BAD;
    }

    /** The FILE, and the way along it, which ends at the first RULE that is broken. */
    private static final class Walk {
        static final int ROOM = 4000;

        final byte[] row = new byte[ROOM];
        int length;
        int at;
        int broken;
        int place;

        void append(int b) {
            if (length < ROOM) {
                row[length] = (byte) b;
                length++;
            }
        }

        void flip(int i, int mask) {
            if (i >= 0 && i < length) {
                row[i] = (byte) (row[i] ^ mask);
            }
        }

        void begin() {
            at = 0;
            broken = 0;
            place = 0;
        }

        boolean sound() {
            return broken == 0;
        }

        /** Only the first RULE that is broken counts, so that callers may go on without harm. */
        void need(boolean holds, int number, int where) {
            if (!holds && broken == 0) {
                broken = number;
                place = where;
            }
        }

        /** The number that stands at a place; 0 if it is not all in the FILE. */
        int numberAt(int where, int size) {
            if (where < 0 || where > length - size) {
                return 0;
            }
            int value = 0;
            for (int i = where; i < where + size; i++) {
                value = value << 8 | row[i] & 255;
            }
            return value;
        }

        /** The next number on the way; 0 if a RULE is broken already, or by this. */
        int next(int size) {
            if (broken != 0) {
                return 0;
            }
            if (at > length - size) {
                broken = 1;
                place = length;
                return 0;
            }
            int value = numberAt(at, size);
            at += size;
            return value;
        }
    }

    /** What the latest judge() found, kept apart from the trials of guarded() and beginnings(). */
    private static final class Report {
        final int[] tally = new int[Gate.TALLIES];
        final int[] methodRows = new int[Gate.MOST_MEMBERS * Gate.METHOD_FACTS];
        final int[] kinds = new int[Pool.MOST];
        boolean passed;
        int broken;

        void keep(Gate gate, boolean passes, int number) {
            passed = passes;
            broken = number;
            if (passes) {
                System.arraycopy(gate.tally, 0, tally, 0, tally.length);
                System.arraycopy(gate.methodRows, 0, methodRows, 0, methodRows.length);
                System.arraycopy(gate.pool.kinds, 0, kinds, 0, kinds.length);
            }
        }
    }

    /** What the bytes of a TEXT are: which names and which descriptors. */
    private static final class Words {
        static final int PLAIN = 1, PATH = 2, INIT = 4, CLINIT = 8;
        static final int FIELD = 16, METHOD = 32, FLOATS = 64, VOID = 128;
        static final int ANY_NAME = PLAIN | INIT | CLINIT;
        static final int SLOTS_SHIFT = 8;

        private static final int FACTS = 255;
        private static final int MOST_BRACKETS = 8;
        private static final int MOST_SLOTS = 250;

        private final byte[] row;

        Words(byte[] row) {
            this.row = row;
        }

        /** PLAIN and PATH (a CLASS NAME), as the bytes from .. to - 1 are; a plain name is both. */
        int nameFacts(int from, int to) {
            int part = 0;
            int facts = PLAIN | PATH;
            for (int i = from; i < to; i++) {
                switch (row[i]) {
                    case '/':
                        if (part == 0) {
                            return 0;
                        }
                        part = 0;
                        facts = PATH;
                        break;
                    case '.':
                    case ';':
                    case '[':
                    case '<':
                    case '>':
                        return 0;
                    default:
                        part++;
                }
            }
            return part == 0 ? 0 : facts;
        }

        /** FIELD or METHOD, with FLOATS and VOID, and a method's SLOTS; 0 if it is no descriptor. */
        int typeFacts(int from, int to) {
            if (from >= to) {
                return 0;
            }
            if (row[from] == '(') {
                return methodFacts(from + 1, to);
            }
            return typeEnd(from, to) == to ? FIELD | floatFacts(to) : 0;
        }

        static int slotsOf(int facts) {
            return facts >> SLOTS_SHIFT;
        }

        static int withoutSlots(int facts) {
            return facts & FACTS;
        }

        private int methodFacts(int from, int to) {
            int facts = METHOD;
            int slots = 0;
            int i = from;
            while (i < to && row[i] != ')') {
                int end = typeEnd(i, to);
                if (end <= i) {
                    return 0;
                }
                slots += slotsBetween(i, end);
                facts |= floatFacts(end);
                i = end;
            }
            if (slots > MOST_SLOTS || i + 1 >= to) {
                return 0;
            }
            facts |= slots << SLOTS_SHIFT;
            i++;
            if (row[i] == 'V') {
                return i + 1 == to ? facts | VOID : 0;
            }
            return typeEnd(i, to) == to ? facts | floatFacts(to) : 0;
        }

        /** Where the type that begins at from ends, F and D being types here; -1 if none does. */
        private int typeEnd(int from, int to) {
            int i = from;
            while (i < to && row[i] == '[') {
                i++;
            }
            if (i >= to || i - from > MOST_BRACKETS) {
                return -1;
            }
            if (row[i] != 'L') {
                return isSimple(row[i]) ? i + 1 : -1;
            }
            int name = i + 1;
            while (i < to && row[i] != ';') {
                i++;
            }
            return i < to && nameFacts(name, i) != 0 ? i + 1 : -1;
        }

        private static boolean isSimple(int letter) {
            switch (letter) {
                case 'B':
                case 'C':
                case 'D':
                case 'F':
                case 'I':
                case 'J':
                case 'S':
                case 'Z':
                    return true;
                default:
                    return false;
            }
        }

        /** The last byte of a type tells it, as that of an object is a semicolon. */
        private int floatFacts(int end) {
            return row[end - 1] == 'F' || row[end - 1] == 'D' ? FLOATS : 0;
        }

        private int slotsBetween(int from, int end) {
            return end - from == 1 && row[from] == 'J' ? 2 : 1;
        }
    }

    /** THE POOL: its entries, and what of them is asked again and again. */
    private static final class Pool {
        static final int MOST = 300;
        static final int TEXT = 1, INT = 3, LONG = 5, CLASS = 7, STRING = 8;
        static final int FIELD = 9, METHOD = 10, OUTER = 11, NAMED = 12;

        final int[] kinds = new int[MOST];
        int count;

        private final Walk walk;
        private final Words words;
        private final int[] places = new int[MOST];
        // Of a TEXT what it is as a name and a descriptor; of a METHOD whether it is <init>.
        private final int[] facts = new int[MOST];
        // Of a TEXT, METHOD and OUTER the SLOTS of the arguments; of a CLASS how many [ it has.
        private final int[] measures = new int[MOST];
        // Of a TEXT a sum over its bytes, so that most that differ need not be gone through.
        private final int[] sums = new int[MOST];

        Pool(Walk walk) {
            this.walk = walk;
            words = new Words(walk.row);
        }

        void readEntries() {
            int where = walk.at;
            int many = walk.next(2);
            walk.need(many >= 1 && many <= MOST, 4, where);
            count = walk.sound() ? many : 0;
            for (int k = 1; k < count && walk.sound(); k++) {
                readEntry(k);
                if (kinds[k] == LONG && k + 1 < count) {
                    k++;
                    clear(k, 0);
                }
            }
        }

        private void clear(int k, int kind) {
            kinds[k] = kind;
            places[k] = walk.at;
            facts[k] = 0;
            measures[k] = 0;
        }

        private void readEntry(int k) {
            int where = walk.at;
            clear(k, walk.numberAt(where, 1));
            int kind = walk.next(1);
            switch (kind) {
                case TEXT:
                    readText(k);
                    break;
                case INT:
                case FIELD:
                case METHOD:
                case OUTER:
                case NAMED:
                    walk.next(4);
                    break;
                case LONG:
                    walk.next(8);
                    walk.need(k + 1 < count, 4, where);
                    break;
                case CLASS:
                case STRING:
                    walk.next(2);
                    break;
                default:
                    walk.need(kind != 4 && kind != 6 && (kind < 15 || kind > 20), 7, where);
                    walk.need(false, 6, where);
            }
        }

        private void readText(int k) {
            int sizePlace = walk.at;
            int size = walk.next(2);
            int sum = 0;
            int left = 0;
            int low = 0;
            int high = 0;
            for (int i = 0; i < size && walk.sound(); i++) {
                int where = walk.at;
                int b = walk.next(1);
                sum = 31 * sum + b;
                if (left == 0) {
                    left = followers(b);
                    low = b == 0xE0 ? 0xA0 : 0x80;
                    high = b == 0xC0 ? 0x80 : 0xBF;
                    walk.need(left >= 0, 5, where);
                } else {
                    walk.need(b >= low && b <= high, 5, where);
                    left--;
                    low = 0x80;
                }
            }
            walk.need(left == 0, 5, sizePlace);
            sums[k] = sum;
        }

        /** How many bytes follow the first one of a letter; -1 if none begins with it. */
        private static int followers(int b) {
            if (b >= 0x01 && b <= 0x7F) {
                return 0;
            }
            if (b == 0xC0 || b >= 0xC2 && b <= 0xDF) {
                return 1;
            }
            return b >= 0xE0 && b <= 0xEF ? 2 : -1;
        }

        /** Each TEXT is looked through once here, however often it is referred to. */
        void noteTexts() {
            for (int k = 1; k < count && walk.sound(); k++) {
                if (kinds[k] == TEXT) {
                    noteText(k);
                }
            }
        }

        private void noteText(int k) {
            int from = places[k] + 3;
            int to = Math.min(from + firstOf(k), walk.length);
            int type = words.typeFacts(from, to);
            int name = words.nameFacts(from, to);
            if (spells(k, "<init>")) {
                name = Words.INIT;
            }
            if (spells(k, "<clinit>")) {
                name = Words.CLINIT;
            }
            facts[k] = name | Words.withoutSlots(type);
            measures[k] = Words.slotsOf(type);
        }

        /** First what refers to TEXTS alone, then the members, which look through these. */
        void readLinks() {
            for (int k = 1; k < count && walk.sound(); k++) {
                switch (kinds[k]) {
                    case CLASS:
                        linkClass(k);
                        break;
                    case STRING:
                        refer(places[k] + 1, TEXT);
                        break;
                    case NAMED:
                        linkNamed(k);
                        break;
                    default:
                }
            }
            for (int k = 1; k < count && walk.sound(); k++) {
                if (kinds[k] == FIELD || kinds[k] == METHOD || kinds[k] == OUTER) {
                    linkMember(k);
                }
            }
        }

        private void linkClass(int k) {
            int where = places[k] + 1;
            int text = refer(where, TEXT);
            int brackets = bracketsOf(text);
            int asked = brackets > 0 ? Words.FIELD : Words.PATH;
            walk.need((factsOf(text) & asked) != 0, 9, where);
            walk.need(brackets == 0 || (factsOf(text) & Words.FLOATS) == 0, 12, where);
            measures[k] = brackets;
        }

        private void linkNamed(int k) {
            int where = places[k] + 1;
            int name = refer(where, TEXT);
            walk.need((factsOf(name) & Words.ANY_NAME) != 0, 9, where);
            int type = refer(where + 2, TEXT);
            needType(type, Words.FIELD | Words.METHOD, where + 2);
        }

        private void linkMember(int k) {
            int where = places[k] + 1;
            refer(where, CLASS);
            int named = refer(where + 2, NAMED);
            int name = factsOf(firstOf(named));
            int type = factsOf(secondOf(named));
            walk.need(fits(kinds[k], name, type), 10, where + 2);
            facts[k] = name & Words.INIT;
            measures[k] = measureOf(secondOf(named));
        }

        private static boolean fits(int kind, int name, int type) {
            boolean plain = (name & Words.PLAIN) != 0;
            if (kind == FIELD) {
                return plain && (type & Words.FIELD) != 0;
            }
            boolean made = kind == METHOD && (name & Words.INIT) != 0 && (type & Words.VOID) != 0;
            return (plain || made) && (type & Words.METHOD) != 0;
        }

        /** The number that stands at a place, which must be that of an entry of this KIND. */
        private int refer(int where, int kind) {
            int k = walk.numberAt(where, 2);
            walk.need(kindOf(k) == kind, 8, where);
            return k;
        }

        /** The next number on the way, which must be that of an entry of this KIND. */
        int take(int kind) {
            int where = walk.at;
            int k = walk.next(2);
            walk.need(kindOf(k) == kind, 8, where);
            return k;
        }

        void needType(int text, int asked, int where) {
            walk.need((factsOf(text) & asked) != 0, 11, where);
            walk.need((factsOf(text) & Words.FLOATS) == 0, 12, where);
        }

        private boolean within(int k) {
            return k >= 1 && k < count && k < MOST;
        }

        int kindOf(int k) {
            return k >= 1 && k < count && k < MOST ? kinds[k] : 0;
        }

        int factsOf(int k) {
            return k >= 1 && k < count && k < MOST ? facts[k] : 0;
        }

        int measureOf(int k) {
            return k >= 1 && k < count && k < MOST ? measures[k] : 0;
        }

        int firstOf(int k) {
            return within(k) ? walk.numberAt(places[k] + 1, 2) : 0;
        }

        int secondOf(int k) {
            return within(k) ? walk.numberAt(places[k] + 3, 2) : 0;
        }

        private int bracketsOf(int text) {
            int size = firstOf(text);
            int many = 0;
            while (many < size && walk.numberAt(places[text] + 3 + many, 1) == '[') {
                many++;
            }
            return many;
        }

        boolean spells(int text, String word) {
            if (firstOf(text) != word.length()) {
                return false;
            }
            for (int i = 0; i < word.length(); i++) {
                if (walk.numberAt(places[text] + 3 + i, 1) != word.charAt(i)) {
                    return false;
                }
            }
            return true;
        }

        /** Whether two TEXTS have the same bytes. */
        boolean alike(int one, int other) {
            if (one == other || !within(one) || !within(other) || sums[one] != sums[other]) {
                return one == other;
            }
            int size = firstOf(one);
            if (size != firstOf(other)) {
                return false;
            }
            for (int i = 0; i < size; i++) {
                int b = walk.numberAt(places[one] + 3 + i, 1);
                if (b != walk.numberAt(places[other] + 3 + i, 1)) {
                    return false;
                }
            }
            return true;
        }
    }

    /** What stands in a "Code" ATTRIBUTE. */
    private static final class Code {
        private static final int MOST_BYTES = 2000, MOST_UNITS = 255, MOST_ROWS = 30;
        private static final int MOST_WAYS = 500, MOST_PAIRS = 250;
        // No INSTRUCTION goes to more places for its bytes than an if does with its three.
        private static final int MOST_JUMPS = MOST_BYTES / 3 + 1;

        private static final int NO = 0, BARE = 1, BYTE = 2, SHORT = 3, LDC = 4, LDCW = 5, LDC2 = 6;
        private static final int ONE = 7, TWO = 8, ONEIN = 9, TWOIN = 10, INC = 11;
        private static final int JUMP = 12, FAR = 13, TABLE = 14, PAIRS = 15;
        private static final int FIELD = 16, CALL = 17, OUTER = 18, CLASS = 19;
        private static final int ARRAY = 20, MULTI = 21, WIDE = 22;

        private static final int INVOKEVIRTUAL = 182, INVOKESPECIAL = 183, NEW = 187;
        private static final int ILOAD_0 = 26, ISTORE = 54, ISTORE_0 = 59;

        // The form of each INSTRUCTION, by its code; sixteen codes a line.
        private static final int[] FORMS = {
            BARE, BARE, BARE, BARE, BARE, BARE, BARE, BARE, BARE, BARE, BARE, NO, NO, NO, NO, NO,
            BYTE, SHORT, LDC, LDCW, LDC2, ONE, TWO, NO, NO, ONE, ONEIN, ONEIN, ONEIN, ONEIN, TWOIN, TWOIN,
            TWOIN, TWOIN, NO, NO, NO, NO, NO, NO, NO, NO, ONEIN, ONEIN, ONEIN, ONEIN, BARE, BARE,
            NO, NO, BARE, BARE, BARE, BARE, ONE, TWO, NO, NO, ONE, ONEIN, ONEIN, ONEIN, ONEIN, TWOIN,
            TWOIN, TWOIN, TWOIN, NO, NO, NO, NO, NO, NO, NO, NO, ONEIN, ONEIN, ONEIN, ONEIN, BARE,
            BARE, NO, NO, BARE, BARE, BARE, BARE, BARE, BARE, BARE, BARE, BARE, BARE, BARE, BARE, BARE,
            BARE, BARE, NO, NO, BARE, BARE, NO, NO, BARE, BARE, NO, NO, BARE, BARE, NO, NO,
            BARE, BARE, NO, NO, BARE, BARE, NO, NO, BARE, BARE, BARE, BARE, BARE, BARE, BARE, BARE,
            BARE, BARE, BARE, BARE, INC, BARE, NO, NO, BARE, NO, NO, NO, NO, NO, NO, NO,
            NO, BARE, BARE, BARE, BARE, NO, NO, NO, NO, JUMP, JUMP, JUMP, JUMP, JUMP, JUMP, JUMP,
            JUMP, JUMP, JUMP, JUMP, JUMP, JUMP, JUMP, JUMP, NO, NO, TABLE, PAIRS, BARE, BARE, NO, NO,
            BARE, BARE, FIELD, FIELD, FIELD, FIELD, CALL, CALL, CALL, OUTER, NO, CLASS, ARRAY, CLASS, BARE, BARE,
            CLASS, CLASS, NO, NO, WIDE, MULTI, JUMP, JUMP, FAR, NO
        };
        // By form: the bytes of the INSTRUCTION (0: it tells them itself), and of its first number.
        private static final int[] WIDTHS = {
            1, 1, 2, 3, 2, 3, 3, 2, 2, 1, 1, 3, 3, 5, 0, 0, 3, 3, 5, 3, 2, 4, 0
        };
        private static final int[] NUMBERS = {
            0, 0, 1, 2, 1, 2, 2, 1, 1, 0, 0, 1, 2, 4, 0, 0, 2, 2, 2, 2, 1, 2, 0
        };

        int stack;
        int locals;
        int size;
        int instructions;
        int jumps;
        int rows;

        private final Walk walk;
        private final Pool pool;
        private final byte[] firsts = new byte[MOST_BYTES];
        private final int[] origins = new int[MOST_JUMPS];
        private final int[] aims = new int[MOST_JUMPS];
        private int base;
        private int version;

        Code(Walk walk, Pool pool) {
            this.walk = walk;
            this.pool = pool;
        }

        void readAll(int ofVersion, int leastLocals) {
            version = ofVersion;
            readSizes(leastLocals);
            int last = 0;
            int pc = 0;
            while (pc < size && pc < MOST_BYTES && walk.sound()) {
                firsts[pc] = 1;
                instructions++;
                last = pc;
                pc += Math.max(1, step(pc));
            }
            for (int i = 0; i < jumps && walk.sound(); i++) {
                walk.need(isFirst(aims[i]), 26, base + origins[i]);
            }
            walk.need(mayBeLast(walk.numberAt(base + last, 1)), 27, base + last);
            if (walk.sound()) {
                walk.at = base + size;
                readRows();
            }
            int where = walk.at;
            walk.need(walk.next(2) == 0, 19, where);
        }

        private void readSizes(int leastLocals) {
            int where = walk.at;
            stack = walk.next(2);
            walk.need(stack <= MOST_UNITS, 15, where);
            where = walk.at;
            locals = walk.next(2);
            walk.need(locals <= MOST_UNITS, 15, where);
            walk.need(locals >= leastLocals, 21, where);
            where = walk.at;
            size = walk.next(4);
            walk.need(size >= 1 && size <= MOST_BYTES, 15, where);
            base = walk.at;
            walk.need(base + size <= walk.length, 1, walk.length);
            instructions = 0;
            jumps = 0;
            rows = 0;
            for (int i = 0; i < size && i < MOST_BYTES && walk.sound(); i++) {
                firsts[i] = 0;
            }
        }

        /** Looks at the INSTRUCTION at pc: how many bytes it has. */
        private int step(int pc) {
            int op = walk.numberAt(base + pc, 1);
            int form = op < FORMS.length ? FORMS[op] : NO;
            switch (form) {
                case NO:
                    walk.need(false, 22, base + pc);
                    return 1;
                case BARE:
                    return 1;
                case TABLE:
                    return stepTable(pc);
                case PAIRS:
                    return stepPairs(pc);
                case WIDE:
                    return stepWide(pc);
                default:
                    return stepFixed(pc, op, form);
            }
        }

        private int stepFixed(int pc, int op, int form) {
            int where = base + pc;
            int width = WIDTHS[form];
            walk.need(pc + width <= size, 25, where);
            int number = walk.numberAt(where + 1, NUMBERS[form]);
            switch (form) {
                case BYTE:
                case SHORT:
                    break;
                case ONE:
                case TWO:
                case INC:
                    walk.need(number + (form == TWO ? 2 : 1) <= locals, 23, where);
                    break;
                case ONEIN:
                case TWOIN:
                    walk.need(localInCode(op) + (form == TWOIN ? 2 : 1) <= locals, 23, where);
                    break;
                case JUMP:
                    addJump(pc, (short) number);
                    break;
                case FAR:
                    addJump(pc, number);
                    break;
                case ARRAY:
                    walk.need(number == 4 || number == 5 || number >= 8 && number <= 11, 24, where);
                    break;
                default:
                    walk.need(kindFits(form, op, pool.kindOf(number)), 8, where);
                    walk.need(restFits(form, op, number, where), 24, where);
            }
            return width;
        }

        private static int localInCode(int op) {
            return (op < ISTORE ? op - ILOAD_0 : op - ISTORE_0) & 3;
        }

        private boolean kindFits(int form, int op, int kind) {
            switch (form) {
                case LDC:
                case LDCW:
                    return kind == Pool.INT || kind == Pool.STRING || kind == Pool.CLASS;
                case LDC2:
                    return kind == Pool.LONG;
                case FIELD:
                    return kind == Pool.FIELD;
                case CALL:
                    boolean outerToo = op != INVOKEVIRTUAL && version >= 52;
                    return kind == Pool.METHOD || outerToo && kind == Pool.OUTER;
                case OUTER:
                    return kind == Pool.OUTER;
                default:
                    return kind == Pool.CLASS;
            }
        }

        private boolean restFits(int form, int op, int k, int where) {
            switch (form) {
                case CALL:
                    return op == INVOKESPECIAL || (pool.factsOf(k) & Words.INIT) == 0;
                case OUTER:
                    return walk.numberAt(where + 3, 2) == pool.measureOf(k) + 1 << 8;
                case CLASS:
                    return op != NEW || pool.measureOf(k) == 0;
                case MULTI:
                    int dimensions = walk.numberAt(where + 3, 1);
                    return dimensions >= 1 && dimensions <= pool.measureOf(k);
                default:
                    return true;
            }
        }

        private int stepWide(int pc) {
            int where = base + pc;
            walk.need(pc + 1 < size, 25, where);
            int op = walk.numberAt(where + 1, 1);
            int form = op < FORMS.length ? FORMS[op] : NO;
            walk.need(form == ONE || form == TWO || form == INC, 22, where);
            int width = form == INC ? 6 : 4;
            walk.need(pc + width <= size, 25, where);
            int number = walk.numberAt(where + 2, 2);
            walk.need(number + (form == TWO ? 2 : 1) <= locals, 23, where);
            return width;
        }

        private int stepTable(int pc) {
            int at = pastPadding(pc);
            addJump(pc, switchNumber(pc, at));
            int low = switchNumber(pc, at + 4);
            int high = switchNumber(pc, at + 8);
            long ways = (long) high - low + 1;
            walk.need(ways >= 1 && ways <= MOST_WAYS, 24, base + pc);
            at += 12;
            for (int i = 0; i < ways && i < MOST_WAYS && walk.sound(); i++) {
                addJump(pc, switchNumber(pc, at));
                at += 4;
            }
            return at - pc;
        }

        private int stepPairs(int pc) {
            int at = pastPadding(pc);
            addJump(pc, switchNumber(pc, at));
            int pairs = switchNumber(pc, at + 4);
            walk.need(pairs >= 0 && pairs <= MOST_PAIRS, 24, base + pc);
            at += 8;
            int before = 0;
            for (int i = 0; i < pairs && walk.sound(); i++) {
                int key = switchNumber(pc, at);
                walk.need(i == 0 || key > before, 24, base + pc);
                addJump(pc, switchNumber(pc, at + 4));
                before = key;
                at += 8;
            }
            return at - pc;
        }

        /** The numbers of a switch begin at a multiple of four from the first byte of the CODE. */
        private int pastPadding(int pc) {
            int end = (pc + 4) / 4 * 4;
            for (int at = pc + 1; at < end; at++) {
                walk.need(at < size, 25, base + pc);
                walk.need(walk.numberAt(base + at, 1) == 0, 24, base + pc);
            }
            return end;
        }

        private int switchNumber(int pc, int at) {
            walk.need(at + 4 <= size, 25, base + pc);
            return walk.numberAt(base + at, 4);
        }

        private void addJump(int pc, int offset) {
            if (jumps < MOST_JUMPS) {
                origins[jumps] = pc;
                aims[jumps] = pc + offset;
                jumps++;
            }
        }

        private boolean isFirst(int pc) {
            return pc >= 0 && pc < size && pc < MOST_BYTES && firsts[pc] == 1;
        }

        private static boolean mayBeLast(int op) {
            switch (op) {
                case 167:
                case 170:
                case 171:
                case 172:
                case 173:
                case 176:
                case 177:
                case 191:
                case 200:
                    return true;
                default:
                    return false;
            }
        }

        private void readRows() {
            int where = walk.at;
            rows = walk.next(2);
            walk.need(rows <= MOST_ROWS, 15, where);
            for (int i = 0; i < rows && walk.sound(); i++) {
                where = walk.at;
                int from = walk.next(2);
                int to = walk.next(2);
                int handler = walk.next(2);
                int caught = walk.next(2);
                boolean bounded = from < to && (to == size || isFirst(to));
                walk.need(bounded && isFirst(from) && isFirst(handler), 28, where);
                walk.need(caught == 0 || pool.kindOf(caught) == Pool.CLASS, 8, where + 6);
            }
        }
    }

    /** The way through the whole FILE, and what is counted on it. */
    private static final class Gate {
        static final int NUMBERS = 0, INTERFACES = 1, FIELDS = 2, METHODS = 3, INSTRUCTIONS = 4;
        static final int BYTES = 5, JUMPS = 6, ROWS = 7, FLAGS = 8, TALLIES = 9;
        static final int METHOD_FACTS = 6, MOST_MEMBERS = 60;

        private static final int MAGIC = 0xCAFEBABE, FIRST_VERSION = 45, LAST_VERSION = 61;
        private static final int MOST_INTERFACES = 20;
        private static final int PUBLIC = 1, PRIVATE = 2, ONE_OF = 7, STATIC = 8, FINAL = 0x10;
        private static final int SUPER = 0x20, TRANSIENT = 0x80, INTERFACE = 0x200, ABSTRACT = 0x400;
        private static final int CONSTANT_VALUE = 1, CODE = 2, EXCEPTIONS = 4, SOURCE_FILE = 8;

        final Pool pool;
        final int[] tally = new int[TALLIES];
        final int[] methodRows = new int[MOST_MEMBERS * METHOD_FACTS];

        private final Walk walk;
        private final Code code;
        // The TEXTS of what has been read: of interfaces, then of fields, then of methods.
        private final int[] names = new int[MOST_MEMBERS];
        private final int[] types = new int[MOST_MEMBERS];
        private int version;
        private int classFlags;
        private int memberPlace;
        private int memberFlags;
        private int memberType;
        private int thrown;

        Gate(Walk walk) {
            this.walk = walk;
            pool = new Pool(walk);
            code = new Code(walk, pool);
        }

        boolean passes() {
            walk.begin();
            readHead();
            pool.readEntries();
            pool.noteTexts();
            pool.readLinks();
            readClass();
            int interfaces = readCount(MOST_INTERFACES);
            for (int k = 0; k < interfaces && walk.sound(); k++) {
                readInterface(k);
            }
            int fields = readCount(MOST_MEMBERS);
            for (int k = 0; k < fields && walk.sound(); k++) {
                readField(k);
                readAttributes((memberFlags & STATIC) != 0 ? CONSTANT_VALUE : 0);
            }
            clearCodeTallies();
            int methods = readCount(MOST_MEMBERS);
            for (int k = 0; k < methods && walk.sound(); k++) {
                readMethod(k);
                int due = (memberFlags & ABSTRACT) != 0 ? 0 : CODE;
                thrown = 0;
                int seen = readAttributes(due | EXCEPTIONS);
                walk.need((seen & due) == due, 20, memberPlace);
                noteMethod(k, (seen & CODE) != 0);
            }
            readAttributes(SOURCE_FILE);
            walk.need(walk.at == walk.length, 29, walk.at);
            tally[NUMBERS] = pool.count;
            tally[INTERFACES] = interfaces;
            tally[FIELDS] = fields;
            tally[METHODS] = methods;
            tally[FLAGS] = classFlags;
            return walk.sound();
        }

        private void readHead() {
            walk.need(walk.next(4) == MAGIC, 2, 0);
            walk.need(walk.next(2) == 0, 3, 4);
            version = walk.next(2);
            walk.need(version >= FIRST_VERSION && version <= LAST_VERSION, 3, 6);
        }

        private int readCount(int most) {
            int where = walk.at;
            int many = walk.next(2);
            walk.need(many <= most, 15, where);
            return walk.sound() ? many : 0;
        }

        private void readClass() {
            int where = walk.at;
            classFlags = walk.next(2);
            walk.need(classFlagsHold(classFlags), 13, where);
            int self = takeClassText();
            where = walk.at;
            int above = takeClassText();
            walk.need(!pool.alike(self, above), 14, where);
            boolean plain = (classFlags & INTERFACE) == 0;
            walk.need(plain || pool.spells(above, "java/lang/Object"), 14, where);
        }

        private static boolean classFlagsHold(int flags) {
            if ((flags & ~(PUBLIC | FINAL | SUPER | INTERFACE | ABSTRACT)) != 0) {
                return false;
            }
            if ((flags & INTERFACE) != 0) {
                return (flags & (ABSTRACT | FINAL | SUPER)) == ABSTRACT;
            }
            return (flags & (FINAL | ABSTRACT)) != (FINAL | ABSTRACT);
        }

        /** The TEXT of the CLASS that is next on the way, which must be no array. */
        private int takeClassText() {
            int where = walk.at;
            int k = pool.take(Pool.CLASS);
            walk.need(pool.measureOf(k) == 0, 9, where);
            return pool.firstOf(k);
        }

        private void readInterface(int k) {
            int where = walk.at;
            int text = takeClassText();
            for (int i = 0; i < k && i < MOST_MEMBERS; i++) {
                walk.need(!pool.alike(names[i], text), 16, where);
            }
            if (k < MOST_MEMBERS) {
                names[k] = text;
            }
        }

        private void readField(int k) {
            memberPlace = walk.at;
            memberFlags = walk.next(2);
            walk.need(fieldFlagsHold(memberFlags), 13, memberPlace);
            int where = walk.at;
            int name = pool.take(Pool.TEXT);
            walk.need((pool.factsOf(name) & Words.PLAIN) != 0, 9, where);
            where = walk.at;
            memberType = pool.take(Pool.TEXT);
            pool.needType(memberType, Words.FIELD, where);
            addMember(k, name);
        }

        private boolean fieldFlagsHold(int flags) {
            if ((classFlags & INTERFACE) != 0) {
                return flags == (PUBLIC | STATIC | FINAL);
            }
            return (flags & ~(ONE_OF | STATIC | FINAL | TRANSIENT)) == 0
                && Integer.bitCount(flags & ONE_OF) <= 1;
        }

        private void readMethod(int k) {
            memberPlace = walk.at;
            memberFlags = walk.next(2);
            walk.need(methodFlagsHold(memberFlags), 13, memberPlace);
            int namePlace = walk.at;
            int name = pool.take(Pool.TEXT);
            walk.need((pool.factsOf(name) & Words.ANY_NAME) != 0, 9, namePlace);
            int where = walk.at;
            memberType = pool.take(Pool.TEXT);
            pool.needType(memberType, Words.METHOD, where);
            walk.need(specialNameHolds(pool.factsOf(name)), 17, namePlace);
            addMember(k, name);
        }

        private boolean methodFlagsHold(int flags) {
            if ((flags & ~(ONE_OF | STATIC | FINAL | ABSTRACT)) != 0
                || Integer.bitCount(flags & ONE_OF) > 1) {
                return false;
            }
            if ((flags & ABSTRACT) != 0
                && ((flags & (PRIVATE | STATIC | FINAL)) != 0 || (classFlags & ABSTRACT) == 0)) {
                return false;
            }
            return (classFlags & INTERFACE) == 0
                || (flags & (PUBLIC | PRIVATE)) != 0 && (flags & FINAL) == 0;
        }

        private boolean specialNameHolds(int name) {
            if ((name & Words.INIT) != 0) {
                return (classFlags & INTERFACE) == 0
                    && (pool.factsOf(memberType) & Words.VOID) != 0
                    && (memberFlags & (STATIC | FINAL | ABSTRACT)) == 0;
            }
            if ((name & Words.CLINIT) != 0) {
                return memberFlags == STATIC && pool.spells(memberType, "()V");
            }
            return true;
        }

        private void addMember(int k, int name) {
            if (k < 0 || k >= MOST_MEMBERS) {
                return;
            }
            for (int i = 0; i < k && walk.sound(); i++) {
                boolean twice = pool.alike(names[i], name) && pool.alike(types[i], memberType);
                walk.need(!twice, 16, memberPlace);
            }
            names[k] = name;
            types[k] = memberType;
        }

        /** Reads ATTRIBUTES, of which these are allowed: those that were there. */
        private int readAttributes(int allowed) {
            int many = walk.next(2);
            int seen = 0;
            for (int i = 0; i < many && walk.sound(); i++) {
                int where = walk.at;
                int which = attributeOf(pool.take(Pool.TEXT));
                int sizePlace = walk.at;
                int size = walk.next(4);
                int from = walk.at;
                walk.need((which & allowed & ~seen) != 0, 19, where);
                seen |= which;
                if (which == CODE && walk.sound()) {
                    code.readAll(version, leastLocals());
                } else if (which == CONSTANT_VALUE) {
                    readConstant();
                } else if (which == EXCEPTIONS) {
                    readExceptions();
                } else if (which == SOURCE_FILE) {
                    pool.take(Pool.TEXT);
                }
                walk.need(walk.at - from == size, 18, sizePlace);
            }
            return seen;
        }

        private int attributeOf(int text) {
            if (pool.spells(text, "Code")) {
                return CODE;
            }
            if (pool.spells(text, "ConstantValue")) {
                return CONSTANT_VALUE;
            }
            if (pool.spells(text, "Exceptions")) {
                return EXCEPTIONS;
            }
            return pool.spells(text, "SourceFile") ? SOURCE_FILE : 0;
        }

        private int leastLocals() {
            return pool.measureOf(memberType) + ((memberFlags & STATIC) != 0 ? 0 : 1);
        }

        private void readConstant() {
            int where = walk.at;
            int kind = pool.kindOf(walk.next(2));
            int due = constantKind();
            walk.need(due != 0 && kind == due, 8, where);
        }

        /** The KIND of a constant of the field that is read; 0 if there is none. */
        private int constantKind() {
            if (pool.spells(memberType, "J")) {
                return Pool.LONG;
            }
            if (pool.spells(memberType, "Ljava/lang/String;")) {
                return Pool.STRING;
            }
            // A field's descriptor of one byte is B C I J S Z.
            return pool.firstOf(memberType) == 1 ? Pool.INT : 0;
        }

        private void readExceptions() {
            thrown = walk.next(2);
            for (int i = 0; i < thrown && walk.sound(); i++) {
                pool.take(Pool.CLASS);
            }
        }

        private void clearCodeTallies() {
            for (int i = INSTRUCTIONS; i <= ROWS; i++) {
                tally[i] = 0;
            }
        }

        private void noteMethod(int k, boolean coded) {
            if (k < 0 || k >= MOST_MEMBERS) {
                return;
            }
            int row = k * METHOD_FACTS;
            methodRows[row] = memberFlags;
            methodRows[row + 1] = pool.measureOf(memberType);
            methodRows[row + 2] = coded ? code.stack : 0;
            methodRows[row + 3] = coded ? code.locals : 0;
            methodRows[row + 4] = coded ? code.instructions : 0;
            methodRows[row + 5] = thrown;
            if (coded) {
                tally[INSTRUCTIONS] += code.instructions;
                tally[BYTES] += code.size;
                tally[JUMPS] += code.jumps;
                tally[ROWS] += code.rows;
            }
        }
    }
}
