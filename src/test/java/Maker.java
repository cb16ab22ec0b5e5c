import java.io.ByteArrayOutputStream;
import java.nio.charset.StandardCharsets;
import java.util.ArrayList;
import java.util.HashMap;
import java.util.List;
import java.util.Map;

/** Writes class files, right and wrong ones, and knows the places of what it wrote. */
final class Maker {
    private final int version;
    private final List<byte[]> entries = new ArrayList<>();
    private final Map<String, Integer> known = new HashMap<>();
    private final Map<String, Integer> marks = new HashMap<>();
    private final ByteArrayOutputStream body = new ByteArrayOutputStream();
    private int count = -1;

    Maker(int version) {
        this.version = version;
        entries.add(new byte[0]);
    }

    /** The pool says that it has so many numbers, whatever it has. */
    Maker sayCount(int n) {
        count = n;
        return this;
    }

    /** An entry of any bytes: its number. */
    int raw(int... bytes) {
        entries.add(bytes(bytes));
        return entries.size() - 1;
    }

    int text(String s) {
        return text(s.getBytes(StandardCharsets.ISO_8859_1));
    }

    int text(byte[] s) {
        String key = "text " + new String(s, StandardCharsets.ISO_8859_1);
        return known.computeIfAbsent(key, x -> otherText(s));
    }

    /** A TEXT of its own, even if there is the same already. */
    int otherText(byte[] s) {
        byte[] entry = new byte[3 + s.length];
        entry[0] = 1;
        entry[1] = (byte) (s.length >> 8);
        entry[2] = (byte) s.length;
        System.arraycopy(s, 0, entry, 3, s.length);
        entries.add(entry);
        return entries.size() - 1;
    }

    int otherText(String s) {
        return otherText(s.getBytes(StandardCharsets.ISO_8859_1));
    }

    int number(int value) {
        return raw(3, value >> 24, value >> 16, value >> 8, value);
    }

    int longNumber(long value) {
        int k = raw(5, (int) (value >> 56), (int) (value >> 48), (int) (value >> 40), (int) (value >> 32),
            (int) (value >> 24), (int) (value >> 16), (int) (value >> 8), (int) value);
        entries.add(new byte[0]);
        return k;
    }

    int one(int kind, int a) {
        String key = kind + " " + a;
        Integer k = known.get(key);
        if (k == null) {
            k = raw(kind, a >> 8, a);
            known.put(key, k);
        }
        return k;
    }

    int two(int kind, int a, int b) {
        String key = kind + " " + a + " " + b;
        Integer k = known.get(key);
        if (k == null) {
            k = raw(kind, a >> 8, a, b >> 8, b);
            known.put(key, k);
        }
        return k;
    }

    int classOf(String name) {
        return one(7, text(name));
    }

    int string(String s) {
        return one(8, text(s));
    }

    int named(String name, String type) {
        return two(12, text(name), text(type));
    }

    int field(String owner, String name, String type) {
        return two(9, classOf(owner), named(name, type));
    }

    int method(String owner, String name, String type) {
        return two(10, classOf(owner), named(name, type));
    }

    int outer(String owner, String name, String type) {
        return two(11, classOf(owner), named(name, type));
    }

    Maker u1(int... values) {
        for (int v : values) {
            body.write(v);
        }
        return this;
    }

    Maker u2(int... values) {
        for (int v : values) {
            u1(v >> 8, v);
        }
        return this;
    }

    Maker u4(int... values) {
        for (int v : values) {
            u2(v >> 16, v);
        }
        return this;
    }

    /** The place of what is written next gets a name. */
    Maker mark(String name) {
        marks.put(name, body.size());
        return this;
    }

    /** The head of a class A above which java/lang/Object is, without interfaces. */
    Maker open(int flags) {
        int self = classOf("A");
        int above = classOf("java/lang/Object");
        return mark("flags").u2(flags).mark("self").u2(self).mark("above").u2(above).mark("interfaces").u2(0);
    }

    /** FLAGS, name and descriptor of a member. */
    Maker member(String mark, int flags, String name, String type) {
        int nameText = text(name);
        int typeText = text(type);
        return mark(mark).u2(flags).mark(mark + ".name").u2(nameText).mark(mark + ".type").u2(typeText);
    }

    /** Name and length of an ATTRIBUTE. */
    Maker attribute(String mark, String name, int length) {
        int nameText = text(name);
        return mark(mark).u2(nameText).mark(mark + ".length").u4(length);
    }

    /** A whole "Code" without rows. */
    Maker code(String mark, int stack, int locals, int... code) {
        attribute(mark, "Code", 12 + code.length);
        mark(mark + ".stack").u2(stack).mark(mark + ".locals").u2(locals).mark(mark + ".size").u4(code.length);
        return mark(mark + ".code").u1(code).mark(mark + ".rows").u2(0).mark(mark + ".attributes").u2(0);
    }

    int place(String mark) {
        return place(entries.size()) + marks.get(mark);
    }

    /** The place of an entry; that of the one behind all is where the class begins. */
    int place(int entry) {
        int at = 10;
        for (int k = 0; k < entry; k++) {
            at += entries.get(k).length;
        }
        return at;
    }

    byte[] file() {
        ByteArrayOutputStream out = new ByteArrayOutputStream();
        int n = count >= 0 ? count : entries.size();
        out.writeBytes(bytes(0xCA, 0xFE, 0xBA, 0xBE, 0, 0, version >> 8, version, n >> 8, n));
        for (byte[] entry : entries) {
            out.writeBytes(entry);
        }
        out.writeBytes(body.toByteArray());
        return out.toByteArray();
    }

    static byte[] bytes(int... values) {
        byte[] row = new byte[values.length];
        for (int i = 0; i < row.length; i++) {
            row[i] = (byte) values[i];
        }
        return row;
    }
}
