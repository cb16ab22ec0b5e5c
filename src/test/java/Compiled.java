import java.io.ByteArrayOutputStream;
import java.io.DataInputStream;
import java.io.DataOutputStream;
import java.io.ByteArrayInputStream;
import java.io.IOException;
import java.io.OutputStream;
import java.io.StringWriter;
import java.net.URI;
import java.util.ArrayList;
import java.util.List;
import java.util.Map;
import java.util.TreeMap;
import javax.tools.FileObject;
import javax.tools.ForwardingJavaFileManager;
import javax.tools.JavaCompiler;
import javax.tools.JavaFileManager;
import javax.tools.JavaFileObject;
import javax.tools.SimpleJavaFileObject;
import javax.tools.ToolProvider;

/** Class files as javac writes them: by another hand than that of Maker. */
final class Compiled {
    private Compiled() {
    }

    private static final class Source extends SimpleJavaFileObject {
        private final String words;

        Source(String name, String words) {
            super(URI.create("string:///" + name + ".java"), Kind.SOURCE);
            this.words = words;
        }

        @Override
        public CharSequence getCharContent(boolean ignoreErrors) {
            return words;
        }
    }

    private static final class Written extends SimpleJavaFileObject {
        private final ByteArrayOutputStream bytes = new ByteArrayOutputStream();

        Written(String name) {
            super(URI.create("bytes:///" + name + ".class"), Kind.CLASS);
        }

        @Override
        public OutputStream openOutputStream() {
            return bytes;
        }
    }

    private static final class Memory extends ForwardingJavaFileManager<JavaFileManager> {
        private final Map<String, Written> written = new TreeMap<>();

        Memory(JavaFileManager files) {
            super(files);
        }

        @Override
        public JavaFileObject getJavaFileForOutput(Location where, String name, JavaFileObject.Kind kind, FileObject from) {
            return written.computeIfAbsent(name, Written::new);
        }
    }

    /** The class files of a source, by the names of their classes. */
    static Map<String, byte[]> classes(String name, String words, String... options) throws IOException {
        JavaCompiler compiler = ToolProvider.getSystemJavaCompiler();
        StringWriter told = new StringWriter();
        List<String> all = new ArrayList<>(List.of("-proc:none", "-nowarn", "-Xlint:-options"));
        all.addAll(List.of(options));
        Map<String, byte[]> files = new TreeMap<>();
        try (Memory memory = new Memory(compiler.getStandardFileManager(null, null, null))) {
            if (!compiler.getTask(told, memory, null, all, null, List.of(new Source(name, words))).call()) {
                throw new IOException("does not compile: " + name + "\n" + told);
            }
            memory.written.forEach((key, one) -> files.put(key, one.bytes.toByteArray()));
        }
        return files;
    }

    /** The same class file without what javac puts behind the rows of a "Code", which no contract may have. */
    static byte[] stripped(byte[] file) throws IOException {
        DataInputStream in = new DataInputStream(new ByteArrayInputStream(file));
        ByteArrayOutputStream bytes = new ByteArrayOutputStream();
        DataOutputStream out = new DataOutputStream(bytes);
        out.writeLong(in.readLong());
        String[] texts = copyPool(in, out);
        out.write(in.readNBytes(6));
        int interfaces = copyNumber(in, out);
        out.write(in.readNBytes(2 * interfaces));
        for (int kind = 0; kind < 2; kind++) {
            int members = copyNumber(in, out);
            for (int i = 0; i < members; i++) {
                out.write(in.readNBytes(6));
                copyAttributes(in, out, texts);
            }
        }
        out.write(in.readAllBytes());
        return bytes.toByteArray();
    }

    private static int copyNumber(DataInputStream in, DataOutputStream out) throws IOException {
        int value = in.readUnsignedShort();
        out.writeShort(value);
        return value;
    }

    private static String[] copyPool(DataInputStream in, DataOutputStream out) throws IOException {
        int many = copyNumber(in, out);
        String[] texts = new String[many];
        for (int k = 1; k < many; k++) {
            int kind = in.readUnsignedByte();
            out.writeByte(kind);
            switch (kind) {
                case 1 -> {
                    texts[k] = in.readUTF();
                    out.writeUTF(texts[k]);
                }
                case 5, 6 -> {
                    out.write(in.readNBytes(8));
                    k++;
                }
                case 7, 8, 16, 19, 20 -> out.write(in.readNBytes(2));
                case 15 -> out.write(in.readNBytes(3));
                default -> out.write(in.readNBytes(4));
            }
        }
        return texts;
    }

    private static void copyAttributes(DataInputStream in, DataOutputStream out, String[] texts) throws IOException {
        int many = copyNumber(in, out);
        for (int i = 0; i < many; i++) {
            String name = texts[copyNumber(in, out)];
            byte[] content = in.readNBytes(in.readInt());
            byte[] kept = name.equals("Code") ? strippedCode(content) : content;
            out.writeInt(kept.length);
            out.write(kept);
        }
    }

    private static byte[] strippedCode(byte[] content) throws IOException {
        DataInputStream in = new DataInputStream(new ByteArrayInputStream(content));
        ByteArrayOutputStream bytes = new ByteArrayOutputStream();
        DataOutputStream out = new DataOutputStream(bytes);
        out.writeInt(in.readInt());
        int size = in.readInt();
        out.writeInt(size);
        out.write(in.readNBytes(size));
        int rows = copyNumber(in, out);
        out.write(in.readNBytes(8 * rows));
        out.writeShort(0);
        return bytes.toByteArray();
    }
}
