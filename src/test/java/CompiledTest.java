import java.io.IOException;
import java.io.PrintWriter;
import java.io.StringWriter;
import java.nio.file.Files;
import java.nio.file.Path;
import java.util.ArrayList;
import java.util.List;
import java.util.Map;
import java.util.Optional;
import java.util.regex.Matcher;
import java.util.regex.Pattern;
import java.util.spi.ToolProvider;

/**
 * Class files as javac writes them, against what javap tells of them: so that the class is not held
 * against this project's own reading of the specification alone.
 */
public final class CompiledTest {
    private static final String LEDGER = """
        package p;
        public final class Ledger extends Thread implements Cloneable, java.io.Serializable {
            public static final int MOST = 70000;
            static final long BIG = 1L << 40;
            private static final String WORD = "w\\u00e9\\u20ac\\u0000";
            static final byte B = 1;
            static final char C = 'c';
            static final short S = -3;
            static final boolean Z = true;
            static int[] made = new int[4];
            private long sum;
            protected transient int[][] grid;
            private java.util.List list;

            static int pick(int k) {
                switch (k) {
                    case 1: return 5;
                    case 2: return MOST;
                    case 4: return -1000;
                    default:
                }
                switch (k) {
                    case -9: k += 1000; break;
                    case 70000: k--; break;
                    default: return k;
                }
                return k * 2;
            }

            long add(long a, int b) throws java.io.IOException, InterruptedException {
                if (a < b) {
                    throw new java.io.IOException(WORD);
                }
                for (int i = 0; i < b; i++) {
                    sum += a << i ^ BIG;
                }
                list.add(new Object[] {null, new long[2], new String[b][], Ledger.class});
                return sum;
            }

            Object make(Object o) {
                try {
                    grid = new int[3][4];
                    return o instanceof String ? (String) o : WORD.substring(list.size());
                } catch (RuntimeException e) {
                    return super.toString();
                } finally {
                    made[1]++;
                }
            }
        }
        """;
    private static final String FACE = """
        interface Face extends Comparable {
            int ONE = 1;
            String WORD = "word";

            void go(String[][] words, long many) throws Exception;

            static int half(int k) {
                return k / 2 & ~own(k);
            }

            default long twice(long k) {
                return k != 0 ? k * 2 : hashCode();
            }

            private static int own(int k) {
                return k << 1;
            }
        }
        """;
    private static final String BASE = """
        public abstract class Base {
            protected byte[] row;

            protected Base(byte[] row) {
                this.row = row.clone();
            }

            abstract int size(long a, boolean b, char[] c, long d);

            protected abstract void end() throws java.io.IOException;

            final boolean same(Base other) {
                return other != null && (other == this || other.row.length == row.length);
            }

            short at(int i) {
                return (short) (i >= 0 && i < row.length ? (char) row[i] >>> 3 : -1L);
            }
        }
        """;

    private static final Check CHECK = new Check();

    public static void main(String[] args) throws IOException {
        compiled();
        sourceFile();
        noContracts();
        CHECK.done();
    }

    private static byte[] one(String name, String words, String... options) throws IOException {
        Map<String, byte[]> classes = Compiled.classes(name, words, options);
        return classes.get(classes.keySet().iterator().next());
    }

    private static void compiled() throws IOException {
        CHECK.says("class files (chapter 4 of the Java Virtual Machine Specification) are read from the first byte on");
        for (String release : new String[] {"7", "8", "11", "17"}) {
            told("Ledger of " + release, one("Ledger", LEDGER, "-g:none", "--release", release));
            told("Base of " + release, one("Base", BASE, "-g:none", "--release", release));
        }
        told("Face", one("Face", FACE, "-g:none", "--release", "11"));
    }

    /** javap's view of a file is held against what is told of it. */
    private static void told(String what, byte[] compiled) throws IOException {
        byte[] file = Compiled.stripped(compiled);
        CHECK.passes(what, file);
        Optional<ToolProvider> javap = ToolProvider.findFirst("javap");
        if (javap.isEmpty()) {
            System.out.println("no javap on this machine: " + what + " is not held against it");
            return;
        }
        CodeGate gate = Check.fed(file);
        gate.judge();
        String view = view(javap.get(), file);
        toldOfClass(what, gate, view);
        toldOfPool(what, gate, view);
        toldOfMethods(what, gate, view.substring(view.indexOf("\n{\n")));
    }

    private static String view(ToolProvider javap, byte[] file) throws IOException {
        Path place = Files.createTempFile("compiled", ".class");
        try {
            Files.write(place, file);
            StringWriter told = new StringWriter();
            PrintWriter out = new PrintWriter(told);
            javap.run(out, out, "-v", "-p", place.toString());
            out.flush();
            return told.toString().replace("\r\n", "\n");
        } finally {
            Files.delete(place);
        }
    }

    private static Matcher find(String regex, String view) {
        return Pattern.compile(regex, Pattern.MULTILINE).matcher(view);
    }

    private static int count(String regex, String view) {
        return (int) find(regex, view).results().count();
    }

    private static void toldOfClass(String what, CodeGate gate, String view) {
        Matcher counts = find("^  interfaces: (\\d+), fields: (\\d+), methods: (\\d+)", view);
        CHECK.due(what + ": javap tells its counts", counts.find() ? 1 : 0, 1);
        for (int i = 1; i <= 3; i++) {
            CHECK.due(what + ": told(" + i + ")", gate.told(i), Integer.parseInt(counts.group(i)));
        }
        Matcher flags = find("^  flags: \\(0x([0-9a-f]+)\\)", view);
        CHECK.due(what + ": javap tells its FLAGS", flags.find() ? 1 : 0, 1);
        CHECK.due(what + ": told(8)", gate.told(8), Integer.parseInt(flags.group(1), 16));
    }

    private static void toldOfPool(String what, CodeGate gate, String view) {
        Map<String, Integer> kinds = Map.of("Utf8", 1, "Integer", 3, "Long", 5, "Class", 7, "String", 8, "Fieldref", 9,
            "Methodref", 10, "InterfaceMethodref", 11, "NameAndType", 12);
        int[] due = new int[gate.told(0)];
        int last = 0;
        Matcher entries = find("^ +#(\\d+) = (\\w+)", view);
        while (entries.find()) {
            last = Integer.parseInt(entries.group(1));
            CHECK.due(what + ": there is a number " + last, last < due.length ? 1 : 0, 1);
            due[last] = kinds.get(entries.group(2));
        }
        CHECK.due(what + ": told(0)", due.length, last + (due[last] == 5 ? 2 : 1));
        for (int k = 1; k < due.length; k++) {
            CHECK.due(what + ": entry(" + k + ")", gate.entry(k), due[k]);
        }
    }

    private static void toldOfMethods(String what, CodeGate gate, String view) {
        String instruction = "^ +\\d+: [a-z]";
        String jump = "^ +\\d+: (if|goto)|^ +-?\\d+: \\d+$|^ +default: \\d+$";
        String row = "^ +\\d+ +\\d+ +\\d+ +(Class|any)";
        CHECK.due(what + ": told(4)", gate.told(4), count(instruction, view));
        CHECK.due(what + ": told(6)", gate.told(6), count(jump, view));
        CHECK.due(what + ": told(7)", gate.told(7), count(row, view));
        List<Integer> begins = new ArrayList<>();
        find("^    descriptor: ", view).results().forEach(m -> begins.add(m.start()));
        begins.add(view.length());
        int fields = gate.told(2);
        CHECK.due(what + ": members", begins.size() - 1, fields + gate.told(3));
        for (int k = 0; k < gate.told(3); k++) {
            String part = view.substring(begins.get(fields + k), begins.get(fields + k + 1));
            Matcher flags = find("flags: \\(0x([0-9a-f]+)\\)", part);
            int flag = flags.find() ? Integer.parseInt(flags.group(1), 16) : -1;
            String which = what + ": method(" + k + ", ";
            CHECK.due(which + "0)", gate.method(k, 0), flag);
            Matcher sizes = find("stack=(\\d+), locals=(\\d+), args_size=(\\d+)", part);
            boolean coded = sizes.find();
            CHECK.due(which + "2)", gate.method(k, 2), coded ? Integer.parseInt(sizes.group(1)) : 0);
            CHECK.due(which + "3)", gate.method(k, 3), coded ? Integer.parseInt(sizes.group(2)) : 0);
            if (coded) {
                int self = (flag & 8) != 0 ? 0 : 1;
                CHECK.due(which + "1)", gate.method(k, 1), Integer.parseInt(sizes.group(3)) - self + longs(part));
            }
            CHECK.due(which + "4)", gate.method(k, 4), count(instruction, part));
            Matcher thrown = find("^ +throws (.*)$", part);
            CHECK.due(which + "5)", gate.method(k, 5), thrown.find() ? thrown.group(1).split(", ").length : 0);
        }
    }

    /** How many arguments are long ones: javap counts each argument as one. */
    private static int longs(String part) {
        String types = part.substring(part.indexOf('(') + 1, part.indexOf(')'));
        return count("J", types.replaceAll("\\[+(L[^;]*;|.)|L[^;]*;", ""));
    }

    private static void sourceFile() throws IOException {
        CHECK.says("Of the class \"SourceFile\" (as javac writes it)");
        CHECK.passes("with its source's name", Compiled.stripped(one("Base", BASE, "-g:source", "--release", "17")));
        broken("with its lines", 19, one("Base", BASE, "-g:lines", "--release", "17"));
    }

    private static void broken(String what, int rule, byte[] file) {
        CodeGate gate = Check.fed(file);
        CHECK.due(what + ": does not pass", gate.judge() > 0 ? 1 : 0, 1);
        CHECK.due(what + ": rule()", gate.rule(), rule);
    }

    private static void noContract(String what, int rule, String words) throws IOException {
        broken(what, rule, Compiled.stripped(one("A", words, "-g:none", "--release", "17")));
    }

    private static void noContracts() throws IOException {
        CHECK.says("Contracts have no floating point, no monitors, nothing native, dynamic or hidden.");
        CHECK.passes("a contract", Compiled.stripped(one("A", "class A { int a; }", "-g:none", "--release", "17")));
        noContract("a constant that is float", 7, "class A { static Object go() { return 2.5f; } }");
        noContract("a constant that is double", 7, "class A { static Object go() { return 2.5; } }");
        noContract("a field that is float", 12, "class A { float a; }");
        noContract("a field of rows of double", 12, "class A { double[][] a; }");
        noContract("an argument that is double", 12, "class A { static void go(double a) { } }");
        noContract("an answer that is float", 12, "abstract class A { abstract float go(); }");
        noContract("a call with double", 12, "class A { static long go(long a) { return Math.round(a); } }");
        noContract("a cast through double", 22, "class A { static int go(int a) { return (int) (a * (double) a); } }");
        noContract("a row of float", 24, "class A { static Object go(int a) { return new float[a]; } }");
        noContract("rows of double", 12, "class A { static Object go(int a) { return new double[a][]; } }");
        noContract("a monitor", 22, "class A { static void go(Object a) { synchronized (a) { } } }");
        noContract("a method that is synchronized", 13, "class A { synchronized void go() { } }");
        noContract("a native method", 13, "class A { native void go(); }");
        noContract("a lambda", 7, "class A { static Runnable go() { return () -> { }; } }");
        noContract("texts joined", 7, "class A { static String go(String a, int b) { return a + b; } }");
        noContract("a bridge", 13, "class A extends Thread { public A clone() { return null; } }");
        noContract("a volatile field", 13, "class A { volatile int a; }");
        noContract("a method of any number of arguments", 13, "class A { void go(int... a) { } }");
        noContract("an INTERFACE with <clinit>", 13, "interface A { Object B = new Object(); }");
        noContract("an enum", 13, "enum A { B }");
        noContract("an annotation", 13, "@interface A { }");
        noContract("types with parameters", 19, "class A { java.util.List<Integer> a; }");
        noContract("a class with others in it", 19, "class A { static class B { } }");
        noContract("what is deprecated", 19, "class A { @Deprecated int a; }");
        noContract("a record", 19, "record A() { public String toString() { return null; } public int hashCode() { return 0; } "
            + "public boolean equals(Object a) { return false; } }");
        noContract("a constant that is not STATIC", 19, "class A { final int a = 1; }");
    }
}
