import com.sun.source.tree.AssertTree;
import com.sun.source.tree.ClassTree;
import com.sun.source.tree.CompilationUnitTree;
import com.sun.source.tree.LambdaExpressionTree;
import com.sun.source.tree.MemberReferenceTree;
import com.sun.source.tree.MethodInvocationTree;
import com.sun.source.tree.MethodTree;
import com.sun.source.tree.NewArrayTree;
import com.sun.source.tree.NewClassTree;
import com.sun.source.tree.SynchronizedTree;
import com.sun.source.tree.ThrowTree;
import com.sun.source.tree.Tree;
import com.sun.source.tree.TryTree;
import com.sun.source.tree.VariableTree;
import com.sun.source.util.JavacTask;
import com.sun.source.util.SourcePositions;
import com.sun.source.util.TreePathScanner;
import com.sun.source.util.Trees;
import java.io.IOException;
import java.nio.file.Path;
import java.util.ArrayDeque;
import java.util.Deque;
import java.util.HashMap;
import java.util.HashSet;
import java.util.Map;
import java.util.Set;
import java.util.TreeSet;
import javax.lang.model.element.Element;
import javax.lang.model.element.ElementKind;
import javax.lang.model.element.ExecutableElement;
import javax.lang.model.element.Modifier;
import javax.lang.model.element.TypeElement;
import javax.tools.JavaCompiler;
import javax.tools.ToolProvider;

/** Those rules of LANGUAGE.md that can be seen in the program's text, by javac's own reading of it. */
public final class LanguageTest {
    private static final Path PROGRAM = Path.of("src/main/java/WorthKeeping.java");
    private static final Set<String> LIBRARY = Set.of("java.lang.Math.max", "java.lang.Integer.bitCount");

    private final Checks checks = new Checks();
    private final Map<String, Set<String>> called = new HashMap<>();
    private int classes = 0;

    public static void main(String[] args) throws IOException {
        LanguageTest test = new LanguageTest();
        test.read();
        test.callsGoEightDeep();
        test.checks.isTrue("rule 11: some twelve classes, not " + test.classes, test.classes <= 12);
        test.checks.end();
    }

    private void read() throws IOException {
        JavaCompiler javac = ToolProvider.getSystemJavaCompiler();
        try (var files = javac.getStandardFileManager(null, null, null)) {
            JavacTask task = (JavacTask) javac.getTask(null, files, null, null, null, files.getJavaFileObjects(PROGRAM));
            Iterable<? extends CompilationUnitTree> units = task.parse();
            task.analyze();
            for (CompilationUnitTree unit : units) {
                checks.isTrue("rule 4: no import", unit.getImports().isEmpty());
                checks.isTrue("no package line", unit.getPackage() == null);
                new Reader(Trees.instance(task), unit).scan(unit, null);
            }
        }
    }

    /** The library's calls are counted, and so is the first call of a ring, but not those behind it. */
    private void callsGoEightDeep() {
        for (String method : called.keySet()) {
            Deque<String> open = new ArrayDeque<>();
            Deque<String> deepest = new ArrayDeque<>();
            goDown(method, open, deepest);
            checks.isTrue("rule 11: calls go at most eight deep, not " + deepest, deepest.size() <= 8);
        }
    }

    private void goDown(String method, Deque<String> open, Deque<String> deepest) {
        if (open.contains(method)) {
            return;
        }
        open.addLast(method);
        if (open.size() > deepest.size()) {
            deepest.clear();
            deepest.addAll(open);
        }
        for (String next : called.getOrDefault(method, Set.of())) {
            goDown(next, open, deepest);
        }
        open.removeLast();
    }

    private final class Reader extends TreePathScanner<Void, Void> {
        private final Trees trees;
        private final CompilationUnitTree unit;
        private final Set<String> face = new HashSet<>();
        private String method = "";

        Reader(Trees trees, CompilationUnitTree unit) {
            this.trees = trees;
            this.unit = unit;
        }

        private void never(String what, Tree tree) {
            checks.isTrue(what + ", but line " + line(trees.getSourcePositions().getStartPosition(unit, tree)), false);
        }

        private long line(long position) {
            return unit.getLineMap().getLineNumber(position);
        }

        private String nameOf(Element element) {
            return ((TypeElement) element.getEnclosingElement()).getQualifiedName() + "." + element.getSimpleName();
        }

        @Override
        public Void visitClass(ClassTree tree, Void none) {
            classes++;
            TypeElement type = (TypeElement) trees.getElement(getCurrentPath());
            boolean inside = type.getEnclosingElement().getKind() == ElementKind.CLASS;
            if (inside) {
                checks.isTrue("rule 1: " + type + " is static and not public",
                        type.getModifiers().contains(Modifier.STATIC) && !type.getModifiers().contains(Modifier.PUBLIC));
            }
            int fields = 0;
            for (Element member : type.getEnclosedElements()) {
                boolean isStatic = member.getModifiers().contains(Modifier.STATIC);
                if (member.getKind() == ElementKind.FIELD && !isStatic) {
                    fields++;
                }
                checks.isTrue("rule 5: no static block", member.getKind() != ElementKind.STATIC_INIT);
                boolean isFace = member instanceof ExecutableElement && member.getModifiers().contains(Modifier.PUBLIC);
                if (!inside && isFace) {
                    face.add(member.getSimpleName().toString());
                }
            }
            checks.isTrue("rule 11: some twenty fields, not " + fields + " in " + type, fields <= 20);
            return super.visitClass(tree, none);
        }

        @Override
        public Void visitMethod(MethodTree tree, Void none) {
            Element element = trees.getElement(getCurrentPath());
            String before = method;
            method = nameOf(element);
            called.putIfAbsent(method, new TreeSet<>());
            SourcePositions places = trees.getSourcePositions();
            long lines = line(places.getEndPosition(unit, tree)) - line(places.getStartPosition(unit, tree)) + 1;
            checks.isTrue("rule 11: some sixty lines, not " + lines + ": " + method, lines <= 60);
            checks.isTrue("rule 11: seven parameters: " + method, tree.getParameters().size() <= 7);
            checks.isTrue("rule 1: a name of the face is used once: " + method,
                    element.getModifiers().contains(Modifier.PUBLIC) || tree.getReturnType() == null
                            || !face.contains(tree.getName().toString()));
            super.visitMethod(tree, none);
            method = before;
            return null;
        }

        @Override
        public Void visitVariable(VariableTree tree, Void none) {
            Set<Modifier> modifiers = tree.getModifiers().getFlags();
            checks.isTrue("rule 5: static fields are final: " + tree.getName(),
                    !modifiers.contains(Modifier.STATIC) || modifiers.contains(Modifier.FINAL));
            return super.visitVariable(tree, none);
        }

        @Override
        public Void visitMethodInvocation(MethodInvocationTree tree, Void none) {
            Element element = trees.getElement(getCurrentPath());
            boolean implied = element.getKind() == ElementKind.CONSTRUCTOR;
            if (!implied) {
                String name = nameOf(element);
                checks.isTrue("rule 4: only what stands there, not " + name,
                        name.startsWith("WorthKeeping.") || LIBRARY.contains(name));
                called.get(method).add(name);
            }
            return super.visitMethodInvocation(tree, none);
        }

        @Override
        public Void visitNewClass(NewClassTree tree, Void none) {
            checks.isTrue("every object is made in a constructor, not in " + method, method.endsWith(".<init>"));
            called.get(method).add(nameOf(trees.getElement(getCurrentPath())));
            return super.visitNewClass(tree, none);
        }

        @Override
        public Void visitNewArray(NewArrayTree tree, Void none) {
            checks.isTrue("every row is made in a constructor, not in " + method, method.endsWith(".<init>"));
            return super.visitNewArray(tree, none);
        }

        @Override
        public Void visitThrow(ThrowTree tree, Void none) {
            never("the document asks for no exception", tree);
            return super.visitThrow(tree, none);
        }

        @Override
        public Void visitTry(TryTree tree, Void none) {
            never("nothing is thrown, so there is nothing to catch", tree);
            return super.visitTry(tree, none);
        }

        @Override
        public Void visitLambdaExpression(LambdaExpressionTree tree, Void none) {
            never("rule 2: no lambda", tree);
            return super.visitLambdaExpression(tree, none);
        }

        @Override
        public Void visitMemberReference(MemberReferenceTree tree, Void none) {
            never("rule 2: no method reference", tree);
            return super.visitMemberReference(tree, none);
        }

        @Override
        public Void visitSynchronized(SynchronizedTree tree, Void none) {
            never("rule 6: no synchronized", tree);
            return super.visitSynchronized(tree, none);
        }

        @Override
        public Void visitAssert(AssertTree tree, Void none) {
            never("rule 6: no assert", tree);
            return super.visitAssert(tree, none);
        }
    }
}
