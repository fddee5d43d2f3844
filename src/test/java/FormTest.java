import com.sun.source.tree.AssertTree;
import com.sun.source.tree.BinaryTree;
import com.sun.source.tree.ClassTree;
import com.sun.source.tree.CompilationUnitTree;
import com.sun.source.tree.ImportTree;
import com.sun.source.tree.LambdaExpressionTree;
import com.sun.source.tree.LiteralTree;
import com.sun.source.tree.MemberReferenceTree;
import com.sun.source.tree.MethodInvocationTree;
import com.sun.source.tree.MethodTree;
import com.sun.source.tree.SynchronizedTree;
import com.sun.source.tree.ThrowTree;
import com.sun.source.tree.Tree;
import com.sun.source.tree.TryTree;
import com.sun.source.tree.VariableTree;
import com.sun.source.util.JavacTask;
import com.sun.source.util.SourcePositions;
import com.sun.source.util.TreePathScanner;
import com.sun.source.util.Trees;
import java.lang.reflect.Constructor;
import java.lang.reflect.Field;
import java.lang.reflect.Method;
import java.lang.reflect.Modifier;
import java.nio.file.Path;
import java.util.Arrays;
import java.util.HashMap;
import java.util.HashSet;
import java.util.List;
import java.util.Map;
import java.util.Set;
import java.util.TreeSet;
import java.util.stream.Collectors;
import javax.lang.model.element.Element;
import javax.lang.model.element.ElementKind;
import javax.tools.JavaCompiler;
import javax.tools.StandardJavaFileManager;
import javax.tools.ToolProvider;

/** What can be told by a program of the rules of LANGUAGE.md, and the document's face. */
public final class FormTest {
    private static final String FACE = """
        int net(int,int,int,int)
        int ofLane(int,int)
        int far(int,int)
        int rule(int)
        int bar(int,int,int)
        int may(int,int)
        int out(int,int)
        int comes(int,int)
        int carries(int)
        int waits(int)
        int ring(int)
        int rank(int)
        int still(int)
        int states(int)
        int send(int,int,int)
        int ticks(int)
        int ofLoad(int,int)
        int frozen()
        int mend(int)
        long bears(int,int)
        int busiest()
        int sheet(int,int,int)
        int lose(int)
        int put(int,int,int)
        long cell(int,int,int)
        int copy(int,int,int,int,int)
        int tell(int)
        int stamp(int)
        int as(int,int)
        int trace()
        int fault()
        int many(int)
        """;
    private static final Set<String> LIBRARY = Set.of("java.util.Arrays.fill", "java.lang.System.arraycopy",
        "java.lang.Integer.bitCount", "java.lang.Integer.lowestOneBit",
        "java.lang.Math.abs", "java.lang.Math.max", "java.lang.Object.super");

    private static final Due DUE = new Due("FormTest");

    public static void main(String[] args) throws Exception {
        face();
        inside();
        source();
        DUE.end();
    }

    private static void face() {
        Class<?> type = LaneWaits.class;
        DUE.holds("public and final", Modifier.isPublic(type.getModifiers()) && Modifier.isFinal(type.getModifiers()));
        Set<String> methods = new TreeSet<>();
        Set<String> hidden = new HashSet<>();
        for (Method m : type.getDeclaredMethods()) {
            if (Modifier.isPrivate(m.getModifiers())) { hidden.add(m.getName()); continue; }
            DUE.holds("public, not static: " + m, m.getModifiers() == Modifier.PUBLIC);
            methods.add(m.getReturnType() + " " + m.getName() + "("
                + Arrays.stream(m.getParameterTypes()).map(Class::getName).collect(Collectors.joining(",")) + ")");
        }
        Set<String> wanted = new TreeSet<>(List.of(FACE.strip().split("\\s*\n\\s*")));
        DUE.holds("the face is " + methods, methods.equals(wanted));
        for (Constructor<?> c : type.getDeclaredConstructors()) {
            DUE.holds("constructor", c.getModifiers() == Modifier.PUBLIC && c.getParameterCount() == 0);
        }
        Set<String> constants = new TreeSet<>();
        for (Field f : type.getDeclaredFields()) {
            if (!Modifier.isPrivate(f.getModifiers())) constants.add(Modifier.toString(f.getModifiers()) + " " + f.getType() + " " + f.getName());
        }
        String words = "public static final ";
        DUE.holds("the constants are " + constants, constants.equals(Set.of(words + "int UNKNOWN", words + "int OUTSIDE",
            words + "int STATE", words + "int FULL", words + "int NONE", words + "long LOST")));
        for (Method m : type.getDeclaredMethods()) {
            if (Modifier.isPublic(m.getModifiers())) DUE.holds("no private " + m.getName(), !hidden.contains(m.getName()));
        }
    }

    private static void inside() {
        Set<String> names = new HashSet<>();
        for (Method m : LaneWaits.class.getDeclaredMethods()) if (Modifier.isPublic(m.getModifiers())) names.add(m.getName());
        Class<?>[] classes = LaneWaits.class.getDeclaredClasses();
        DUE.holds("some twelve classes", classes.length + 1 <= 12);
        for (Class<?> c : classes) {
            DUE.holds("static: " + c, Modifier.isStatic(c.getModifiers()) && !Modifier.isPublic(c.getModifiers()));
            for (Method m : c.getDeclaredMethods()) DUE.holds("own name: " + m, !names.contains(m.getName()));
        }
        for (Class<?> c : classes) fields(c);
        fields(LaneWaits.class);
    }

    private static void fields(Class<?> c) {
        int own = 0;
        for (Field f : c.getDeclaredFields()) {
            if (!Modifier.isStatic(f.getModifiers())) { own++; continue; }
            DUE.holds("constant: " + f, Modifier.isFinal(f.getModifiers()) && (f.getType() == int.class || f.getType() == long.class));
        }
        DUE.holds("some twenty fields: " + c + " has " + own, own <= 20);
    }

    private static void source() throws Exception {
        String text = Due.source();
        DUE.holds("plain signs", text.chars().allMatch(c -> c == '\n' || c >= 32 && c < 127));
        JavaCompiler compiler = ToolProvider.getSystemJavaCompiler();
        try (StandardJavaFileManager files = compiler.getStandardFileManager(null, null, null)) {
            JavacTask task = (JavacTask) compiler.getTask(null, files, null, null, null,
                files.getJavaFileObjects(Path.of("src/main/java/LaneWaits.java")));
            CompilationUnitTree unit = task.parse().iterator().next();
            task.analyze();
            DUE.holds("no package", unit.getPackageName() == null);
            Looks looks = new Looks(Trees.instance(task), unit);
            looks.scan(unit, null);
            for (Element m : looks.calls.keySet()) {
                int depth = looks.depth(m, new HashSet<>());
                DUE.holds("calls go eight deep at most: " + m + " goes " + depth, depth <= 8);
            }
        }
    }

    private static final class Looks extends TreePathScanner<Void, Void> {
        private final Trees trees;
        private final CompilationUnitTree unit;
        private final SourcePositions places;
        private final Map<Element, Set<Element>> calls = new HashMap<>();
        private Element method;

        Looks(Trees trees, CompilationUnitTree unit) {
            this.trees = trees;
            this.unit = unit;
            places = trees.getSourcePositions();
        }

        /** The method itself counts one; what calls itself counts as endless, as none may here. */
        int depth(Element m, Set<Element> open) {
            if (!calls.containsKey(m)) return 1;
            if (!open.add(m)) return 1000;
            int most = 0;
            for (Element callee : calls.get(m)) most = Math.max(most, depth(callee, open));
            open.remove(m);
            return most + 1;
        }

        private void never(Tree tree) { DUE.holds("not allowed: " + tree, false); }

        @Override public Void visitThrow(ThrowTree t, Void v) { never(t); return null; }
        @Override public Void visitTry(TryTree t, Void v) { never(t); return null; }
        @Override public Void visitAssert(AssertTree t, Void v) { never(t); return null; }
        @Override public Void visitSynchronized(SynchronizedTree t, Void v) { never(t); return null; }
        @Override public Void visitLambdaExpression(LambdaExpressionTree t, Void v) { never(t); return null; }
        @Override public Void visitMemberReference(MemberReferenceTree t, Void v) { never(t); return null; }

        @Override public Void visitImport(ImportTree t, Void v) {
            DUE.holds("import " + t, t.getQualifiedIdentifier().toString().equals("java.util.Arrays"));
            return super.visitImport(t, v);
        }

        @Override public Void visitBinary(BinaryTree t, Void v) {
            String type = String.valueOf(trees.getTypeMirror(getCurrentPath()));
            DUE.holds("no texts joined: " + t, Set.of("int", "long", "boolean").contains(type));
            return super.visitBinary(t, v);
        }

        @Override public Void visitLiteral(LiteralTree t, Void v) {
            DUE.holds("no texts: " + t, t.getKind() != Tree.Kind.STRING_LITERAL);
            return super.visitLiteral(t, v);
        }

        @Override public Void visitVariable(VariableTree t, Void v) {
            String type = t.getType() == null ? "var" : t.getType().toString();
            DUE.holds("type of " + t, !Set.of("var", "double", "float", "Object", "Integer", "Long").contains(type));
            return super.visitVariable(t, v);
        }

        @Override public Void visitClass(ClassTree t, Void v) {
            Element e = trees.getElement(getCurrentPath());
            DUE.holds("no local class", e.getEnclosingElement().getKind() != ElementKind.METHOD);
            return super.visitClass(t, v);
        }

        @Override public Void visitMethod(MethodTree t, Void v) {
            long from = unit.getLineMap().getLineNumber(Math.max(0, places.getStartPosition(unit, t)));
            long to = unit.getLineMap().getLineNumber(Math.max(0, places.getEndPosition(unit, t)));
            DUE.holds("sixty lines: " + t.getName(), to - from < 60);
            DUE.holds("seven parameters: " + t.getName(), t.getParameters().size() <= 7);
            Element outer = method;
            method = trees.getElement(getCurrentPath());
            calls.put(method, new HashSet<>());
            super.visitMethod(t, v);
            method = outer;
            return null;
        }

        @Override public Void visitMethodInvocation(MethodInvocationTree t, Void v) {
            Element callee = trees.getElement(new com.sun.source.util.TreePath(getCurrentPath(), t.getMethodSelect()));
            String owner = callee.getEnclosingElement().toString();
            boolean constructor = callee.getKind() == ElementKind.CONSTRUCTOR;
            String name = owner + "." + (constructor ? "super" : callee.getSimpleName());
            DUE.holds("library: " + name, owner.startsWith("LaneWaits") || LIBRARY.contains(name));
            if (method != null && !constructor) calls.get(method).add(callee);
            return super.visitMethodInvocation(t, v);
        }
    }
}
