import com.sun.source.tree.AssertTree;
import com.sun.source.tree.AssignmentTree;
import com.sun.source.tree.ArrayAccessTree;
import com.sun.source.tree.BinaryTree;
import com.sun.source.tree.BlockTree;
import com.sun.source.tree.ClassTree;
import com.sun.source.tree.CompilationUnitTree;
import com.sun.source.tree.ImportTree;
import com.sun.source.tree.LambdaExpressionTree;
import com.sun.source.tree.MemberReferenceTree;
import com.sun.source.tree.MethodInvocationTree;
import com.sun.source.tree.MethodTree;
import com.sun.source.tree.NewClassTree;
import com.sun.source.tree.SynchronizedTree;
import com.sun.source.tree.ThrowTree;
import com.sun.source.tree.Tree;
import com.sun.source.tree.TryTree;
import com.sun.source.tree.VariableTree;
import com.sun.source.util.JavacTask;
import com.sun.source.util.TreePath;
import com.sun.source.util.TreePathScanner;
import com.sun.source.util.Trees;
import java.io.File;
import java.io.IOException;
import java.lang.reflect.Constructor;
import java.lang.reflect.Field;
import java.lang.reflect.Method;
import java.lang.reflect.Modifier;
import java.util.HashMap;
import java.util.HashSet;
import java.util.List;
import java.util.Map;
import java.util.Set;
import java.util.TreeSet;
import javax.lang.model.element.Element;
import javax.lang.model.element.ElementKind;
import javax.lang.model.element.ExecutableElement;
import javax.lang.model.type.TypeMirror;
import javax.tools.JavaCompiler;
import javax.tools.StandardJavaFileManager;
import javax.tools.ToolProvider;

/** The rules of LANGUAGE.md that can be seen in the class and in its text. */
public final class LanguageTest {
    private static final String SOURCE = "src/main/java/CodeGate.java";
    private static final Set<String> FACE = new TreeSet<>(Set.of("int feed(int,int,int,int,int)", "int cut(int)", "int turn(int,int)",
        "int byteAt(int)", "int judge()", "int rule()", "int told(int)", "int method(int,int)", "int entry(int)", "int guarded(int)",
        "int beginnings()"));
    private static final Set<String> NAMES = Set.of("feed", "cut", "turn", "byteAt", "judge", "rule", "told", "method", "entry", "guarded",
        "beginnings");
    private static final Set<String> TYPES = Set.of("int", "long", "short", "byte", "char", "boolean", "void", "java.lang.String", "int[]",
        "long[]", "char[]", "byte[]", "boolean[]");
    private static final Set<String> CONSTANTS = Set.of("int", "long", "boolean", "char", "java.lang.String", "int[]", "long[]", "char[]",
        "byte[]");
    private static final Set<String> LIBRARY = Set.of("String.length", "String.charAt", "Math.min", "Math.max", "Integer.bitCount",
        "System.arraycopy", "Object.<init>");
    private static final Check CHECK = new Check();

    public static void main(String[] args) throws IOException {
        face();
        source();
        CHECK.done();
    }

    private static void none(String what, Set<String> found) {
        CHECK.due(what + " " + found, found.size(), 0);
    }

    private static void face() {
        CHECK.says("1. The face: the class of the document, public and final");
        int flags = CodeGate.class.getModifiers();
        CHECK.due("public and final", Modifier.isPublic(flags) && Modifier.isFinal(flags) ? 1 : 0, 1);
        CHECK.due("without a package", CodeGate.class.getPackageName().length(), 0);
        Set<String> found = new TreeSet<>();
        for (Method m : CodeGate.class.getDeclaredMethods()) {
            if (!Modifier.isPrivate(m.getModifiers()) && !m.isSynthetic()) {
                String line = m.toGenericString();
                found.add(line.replace("public ", "").replace("CodeGate.", ""));
            }
        }
        CHECK.due("methods " + found, found.equals(FACE) ? 1 : 0, 1);
        Constructor<?>[] made = CodeGate.class.getDeclaredConstructors();
        CHECK.due("constructors", made.length == 1 && Modifier.isPublic(made[0].getModifiers()) ? made[0].getParameterCount() : -1, 0);
        Set<String> seen = new TreeSet<>();
        for (Field f : CodeGate.class.getDeclaredFields()) {
            if (!Modifier.isPrivate(f.getModifiers())) {
                seen.add(f.toGenericString());
            }
        }
        Set<String> due = Set.of("public static final int CodeGate.BAD", "public static final int CodeGate.FULL");
        CHECK.due("constants " + seen, seen.equals(due) ? 1 : 0, 1);
        for (Class<?> inside : CodeGate.class.getDeclaredClasses()) {
            int own = inside.getModifiers();
            boolean right = Modifier.isStatic(own) && !Modifier.isPublic(own) && !Modifier.isProtected(own);
            CHECK.due("class inside " + inside.getName(), right ? 1 : 0, 1);
        }
    }

    /** What a walk through the text finds. */
    private static final class Finder extends TreePathScanner<Void, Void> {
        final Set<String> shapes = new TreeSet<>();
        final Set<String> types = new TreeSet<>();
        final Set<String> library = new TreeSet<>();
        final Set<String> statics = new TreeSet<>();
        final Set<String> changed = new TreeSet<>();
        final Set<String> sameNames = new TreeSet<>();
        final Set<String> longOnes = new TreeSet<>();
        final Set<String> manyParameters = new TreeSet<>();
        final Set<String> manyFields = new TreeSet<>();
        final Map<Element, Set<Element>> calls = new HashMap<>();
        int classes;

        private final Trees trees;
        private final CompilationUnitTree unit;

        Finder(Trees trees, CompilationUnitTree unit) {
            this.trees = trees;
            this.unit = unit;
        }

        private String place(Tree tree) {
            return "line " + line(trees.getSourcePositions().getStartPosition(unit, tree));
        }

        private long line(long position) {
            return unit.getLineMap().getLineNumber(position);
        }

        private Void shape(String what, Tree tree) {
            shapes.add(what + " at " + place(tree));
            return null;
        }

        private void typeOf(Tree tree, TypeMirror type) {
            String name = type.toString();
            if (!TYPES.contains(name) && !name.startsWith("CodeGate")) {
                types.add(name + " at " + place(tree));
            }
        }

        @Override
        public Void visitImport(ImportTree tree, Void p) {
            return shape("import", tree);
        }

        @Override
        public Void visitThrow(ThrowTree tree, Void p) {
            return shape("throw", tree);
        }

        @Override
        public Void visitTry(TryTree tree, Void p) {
            return shape("try", tree);
        }

        @Override
        public Void visitSynchronized(SynchronizedTree tree, Void p) {
            return shape("synchronized", tree);
        }

        @Override
        public Void visitAssert(AssertTree tree, Void p) {
            return shape("assert", tree);
        }

        @Override
        public Void visitLambdaExpression(LambdaExpressionTree tree, Void p) {
            return shape("lambda", tree);
        }

        @Override
        public Void visitMemberReference(MemberReferenceTree tree, Void p) {
            return shape("method reference", tree);
        }

        @Override
        public Void visitBinary(BinaryTree tree, Void p) {
            TypeMirror type = trees.getTypeMirror(getCurrentPath());
            if (tree.getKind() == Tree.Kind.PLUS && type.toString().equals("java.lang.String")) {
                shape("texts joined by +", tree);
            }
            return super.visitBinary(tree, p);
        }

        @Override
        public Void visitBlock(BlockTree tree, Void p) {
            if (tree.isStatic()) {
                shape("static block", tree);
            }
            return super.visitBlock(tree, p);
        }

        @Override
        public Void visitClass(ClassTree tree, Void p) {
            classes++;
            Element self = trees.getElement(getCurrentPath());
            if (self.getKind() != ElementKind.CLASS || self.getEnclosingElement() instanceof ExecutableElement) {
                shape("another kind of class", tree);
            }
            int fields = 0;
            for (Element member : self.getEnclosedElements()) {
                boolean isStatic = member.getModifiers().contains(javax.lang.model.element.Modifier.STATIC);
                fields += member.getKind() == ElementKind.FIELD && !isStatic ? 1 : 0;
            }
            if (fields > 20) {
                manyFields.add(self.toString());
            }
            return super.visitClass(tree, p);
        }

        @Override
        public Void visitVariable(VariableTree tree, Void p) {
            Element self = trees.getElement(getCurrentPath());
            typeOf(tree, self.asType());
            if (self.getModifiers().contains(javax.lang.model.element.Modifier.STATIC)) {
                boolean isFinal = self.getModifiers().contains(javax.lang.model.element.Modifier.FINAL);
                if (!isFinal || !CONSTANTS.contains(self.asType().toString()) || tree.getInitializer() == null) {
                    statics.add(self.toString());
                }
            }
            return super.visitVariable(tree, p);
        }

        @Override
        public Void visitMethod(MethodTree tree, Void p) {
            ExecutableElement self = (ExecutableElement) trees.getElement(getCurrentPath());
            calls.putIfAbsent(self, new HashSet<>());
            typeOf(tree, self.getReturnType());
            String name = self.getSimpleName().toString();
            boolean ofFace = self.getEnclosingElement().toString().equals("CodeGate");
            if (NAMES.contains(name) && !(ofFace && self.getModifiers().contains(javax.lang.model.element.Modifier.PUBLIC))) {
                sameNames.add(self.toString());
            }
            if (tree.getParameters().size() > 7) {
                manyParameters.add(self.toString());
            }
            long first = line(trees.getSourcePositions().getStartPosition(unit, tree));
            long last = line(trees.getSourcePositions().getEndPosition(unit, tree));
            if (first > 0 && last - first + 1 > 60) {
                longOnes.add(self.toString());
            }
            return super.visitMethod(tree, p);
        }

        private void call(Tree tree, Element called) {
            Element owner = called.getEnclosingElement();
            if (owner.toString().startsWith("CodeGate")) {
                TreePath path = getCurrentPath();
                while (path != null && path.getLeaf().getKind() != Tree.Kind.METHOD) {
                    path = path.getParentPath();
                }
                if (path != null) {
                    calls.computeIfAbsent(trees.getElement(path), x -> new HashSet<>()).add(called);
                }
            } else if (!LIBRARY.contains(owner.getSimpleName() + "." + called.getSimpleName())) {
                library.add(owner + "." + called + " at " + place(tree));
            }
        }

        @Override
        public Void visitMethodInvocation(MethodInvocationTree tree, Void p) {
            call(tree, trees.getElement(getCurrentPath()));
            return super.visitMethodInvocation(tree, p);
        }

        @Override
        public Void visitNewClass(NewClassTree tree, Void p) {
            call(tree, trees.getElement(getCurrentPath()));
            if (tree.getClassBody() != null) {
                shape("anonymous class", tree);
            }
            return super.visitNewClass(tree, p);
        }

        @Override
        public Void visitAssignment(AssignmentTree tree, Void p) {
            if (tree.getVariable() instanceof ArrayAccessTree) {
                Tree row = ((ArrayAccessTree) tree.getVariable()).getExpression();
                Element self = trees.getElement(new TreePath(getCurrentPath(), row));
                if (self != null && self.getModifiers().contains(javax.lang.model.element.Modifier.STATIC)) {
                    changed.add(self + " at " + place(tree));
                }
            }
            return super.visitAssignment(tree, p);
        }
    }

    /** How many calls stand open at once below this one, itself among them; far more if it comes back to itself. */
    private static int depth(Map<Element, Set<Element>> calls, Element from, Set<Element> open) {
        if (!open.add(from)) {
            return 1000;
        }
        int deepest = 0;
        for (Element next : calls.getOrDefault(from, Set.of())) {
            deepest = Math.max(deepest, depth(calls, next, open));
        }
        open.remove(from);
        return 1 + deepest;
    }

    private static void source() throws IOException {
        JavaCompiler compiler = ToolProvider.getSystemJavaCompiler();
        Finder finder;
        try (StandardJavaFileManager files = compiler.getStandardFileManager(null, null, null)) {
            JavacTask task = (JavacTask) compiler.getTask(null, files, null, List.of("-proc:none"), null,
                files.getJavaFileObjects(new File(SOURCE)));
            CompilationUnitTree unit = task.parse().iterator().next();
            task.analyze();
            finder = new Finder(Trees.instance(task), unit);
            finder.scan(unit, null);
        }
        CHECK.says("1. No private method bears the name of a public one.");
        none("such names", finder.sameNames);
        CHECK.says("2. and 6. and 10.: shapes that are not allowed");
        none("such shapes", finder.shapes);
        CHECK.says("3. Types");
        none("other types", finder.types);
        CHECK.says("4. The library: only what stands here.");
        none("other calls", finder.library);
        CHECK.says("5. Static fields are final .. never changed.");
        none("other static fields", finder.statics);
        none("changed ones", finder.changed);
        CHECK.says("11. at most seven parameters; some sixty lines; eight deep; some twelve classes, some twenty fields");
        none("many parameters", finder.manyParameters);
        none("long methods", finder.longOnes);
        none("many fields", finder.manyFields);
        CHECK.due("twelve classes at most", Math.max(12, finder.classes), 12);
        CHECK.due("the text was read", finder.classes > 1 && finder.calls.size() > 50 ? 1 : 0, 1);
        for (Element from : finder.calls.keySet()) {
            int depth = depth(finder.calls, from, new HashSet<>());
            CHECK.due("calls that stand open at " + from, Math.max(8, depth), 8);
        }
    }
}
