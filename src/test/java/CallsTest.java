import com.sun.source.tree.AssertTree;
import com.sun.source.tree.BinaryTree;
import com.sun.source.tree.ClassTree;
import com.sun.source.tree.CompilationUnitTree;
import com.sun.source.tree.LambdaExpressionTree;
import com.sun.source.tree.MemberReferenceTree;
import com.sun.source.tree.MethodInvocationTree;
import com.sun.source.tree.MethodTree;
import com.sun.source.tree.NewClassTree;
import com.sun.source.tree.SynchronizedTree;
import com.sun.source.tree.ThrowTree;
import com.sun.source.tree.Tree;
import com.sun.source.tree.TryTree;
import com.sun.source.tree.VariableTree;
import com.sun.source.util.JavacTask;
import com.sun.source.util.TreePath;
import com.sun.source.util.TreePathScanner;
import com.sun.source.util.Trees;
import java.io.File;
import java.io.IOException;
import java.util.ArrayDeque;
import java.util.Deque;
import java.util.List;
import java.util.Map;
import java.util.Set;
import java.util.TreeMap;
import java.util.TreeSet;
import javax.lang.model.element.Element;
import javax.lang.model.element.ElementKind;
import javax.lang.model.element.Modifier;
import javax.lang.model.type.TypeMirror;
import javax.tools.JavaCompiler;
import javax.tools.StandardJavaFileManager;
import javax.tools.ToolProvider;

/** Rules of LANGUAGE.md that need the class as javac reads it: what it calls, how deep, what its fields are. */
public final class CallsTest {
    private static final Set<String> LIBRARY = Set.of("java.lang.String.length", "java.lang.String.charAt",
        "java.lang.Integer.bitCount", "java.lang.Math.max", "java.lang.Math.min", "java.lang.Math.abs",
        "java.lang.System.arraycopy", "java.util.Arrays.fill", "java.lang.Object.<init>");
    private static final Set<String> RECURSIVE = Set.of("PartyRaft.RuleReader.readTest", "PartyRaft.RuleReader.readFact",
        "PartyRaft.Lockings.putFrom");
    private static final Set<String> CONSTANTS = Set.of("int", "long", "boolean", "char", "java.lang.String");
    private static final Set<String> ROWS = Set.of("int[]", "long[]", "byte[]", "boolean[]");
    private static final int DEEPEST = 8;
    private static final int MOST_FIELDS = 20;
    private static final int MOST_CLASSES = 12;

    private static int wrong;

    public static void main(String[] args) throws IOException {
        JavaCompiler compiler = ToolProvider.getSystemJavaCompiler();
        try (StandardJavaFileManager files = compiler.getStandardFileManager(null, null, null)) {
            JavacTask task = (JavacTask) compiler.getTask(null, files, null, List.of("-proc:none"), null,
                files.getJavaFileObjects(new File("src/main/java/PartyRaft.java")));
            Iterable<? extends CompilationUnitTree> units = task.parse();
            task.analyze();
            Reading reading = new Reading(Trees.instance(task));
            reading.scan(units, null);
            depth(reading.calls);
            recursion(reading.calls);
            if (reading.classes > MOST_CLASSES || reading.classes < 1) {
                broken(reading.classes + " classes");
            }
            System.out.println(reading.calls.size() + " methods, " + reading.classes + " classes, " + wrong + " rules are broken");
        }
        if (wrong != 0) {
            System.exit(1);
        }
    }

    private static void broken(String what) {
        wrong++;
        System.out.println(what);
    }

    /** Rule 11: the longest way along calls from each method, none of them met twice. */
    private static void depth(Map<String, Set<String>> calls) {
        for (String from : calls.keySet()) {
            int depth = depthFrom(from, calls, new ArrayDeque<>());
            if (depth > DEEPEST) {
                broken("calls go " + depth + " deep from " + from);
            }
        }
    }

    private static int depthFrom(String method, Map<String, Set<String>> calls, Deque<String> open) {
        open.push(method);
        int deepest = 0;
        for (String next : calls.getOrDefault(method, Set.of())) {
            if (!open.contains(next)) {
                deepest = Math.max(deepest, depthFrom(next, calls, open));
            }
        }
        open.pop();
        return deepest + 1;
    }

    /** Rule 8: only those methods that carry a depth come back to themselves. */
    private static void recursion(Map<String, Set<String>> calls) {
        for (String method : calls.keySet()) {
            if (reached(method, calls).contains(method) != RECURSIVE.contains(method)) {
                broken(method + " is recursive, or should be");
            }
        }
    }

    private static Set<String> reached(String from, Map<String, Set<String>> calls) {
        Set<String> seen = new TreeSet<>();
        Deque<String> open = new ArrayDeque<>(calls.getOrDefault(from, Set.of()));
        while (!open.isEmpty()) {
            String next = open.pop();
            if (seen.add(next)) {
                open.addAll(calls.getOrDefault(next, Set.of()));
            }
        }
        return seen;
    }

    private static final class Reading extends TreePathScanner<Void, Void> {
        final Trees trees;
        final Map<String, Set<String>> calls = new TreeMap<>();
        int classes;
        private String method = "";

        Reading(Trees trees) {
            this.trees = trees;
        }

        private Element element() {
            return trees.getElement(getCurrentPath());
        }

        private static String nameOf(Element e) {
            return e.getEnclosingElement() + "." + e.getSimpleName();
        }

        @Override
        public Void visitClass(ClassTree tree, Void none) {
            classes++;
            int fields = 0;
            for (Tree member : tree.getMembers()) {
                Element e = trees.getElement(new TreePath(getCurrentPath(), member));
                if (e != null && e.getKind() == ElementKind.FIELD && !e.getModifiers().contains(Modifier.STATIC)) {
                    fields++;
                }
                if (member.getKind() == Tree.Kind.BLOCK) {
                    broken(element() + " has a block of its own");
                }
            }
            if (fields > MOST_FIELDS) {
                broken(element() + " has " + fields + " fields");
            }
            return super.visitClass(tree, none);
        }

        @Override
        public Void visitVariable(VariableTree tree, Void none) {
            Element e = element();
            TypeMirror type = e.asType();
            boolean isStatic = e.getModifiers().contains(Modifier.STATIC);
            if (isStatic && !(e.getModifiers().contains(Modifier.FINAL) && CONSTANTS.contains(type.toString()))) {
                broken(nameOf(e) + " is static");
            }
            String bare = type.toString().replace("[]", "");
            boolean own = bare.startsWith("PartyRaft");
            if (!own && !CONSTANTS.contains(type.toString()) && !ROWS.contains(type.toString())) {
                broken(nameOf(e) + " is of type " + type);
            }
            return super.visitVariable(tree, none);
        }

        @Override
        public Void visitMethod(MethodTree tree, Void none) {
            String outer = method;
            method = nameOf(element());
            calls.computeIfAbsent(method, m -> new TreeSet<>());
            if (tree.getParameters().size() > 7) {
                broken(method + " takes more than seven");
            }
            super.visitMethod(tree, none);
            method = outer;
            return null;
        }

        @Override
        public Void visitMethodInvocation(MethodInvocationTree tree, Void none) {
            called(element());
            return super.visitMethodInvocation(tree, none);
        }

        @Override
        public Void visitNewClass(NewClassTree tree, Void none) {
            called(element());
            if (tree.getClassBody() != null) {
                broken("a class without a name in " + method);
            }
            return super.visitNewClass(tree, none);
        }

        private void called(Element e) {
            String name = nameOf(e);
            if (name.startsWith("PartyRaft")) {
                calls.computeIfAbsent(method, m -> new TreeSet<>()).add(name);
            } else if (!LIBRARY.contains(name)) {
                broken(method + " calls " + name);
            }
        }

        @Override
        public Void visitBinary(BinaryTree tree, Void none) {
            TypeMirror type = trees.getTypeMirror(getCurrentPath());
            if (type.toString().equals("java.lang.String")) {
                broken(method + " joins texts by +: " + tree);
            }
            return super.visitBinary(tree, none);
        }

        @Override
        public Void visitLambdaExpression(LambdaExpressionTree tree, Void none) {
            broken("a lambda in " + method);
            return super.visitLambdaExpression(tree, none);
        }

        @Override
        public Void visitMemberReference(MemberReferenceTree tree, Void none) {
            broken("a method reference in " + method);
            return super.visitMemberReference(tree, none);
        }

        @Override
        public Void visitThrow(ThrowTree tree, Void none) {
            broken("throw in " + method);
            return super.visitThrow(tree, none);
        }

        @Override
        public Void visitTry(TryTree tree, Void none) {
            broken("try in " + method);
            return super.visitTry(tree, none);
        }

        @Override
        public Void visitAssert(AssertTree tree, Void none) {
            broken("assert in " + method);
            return super.visitAssert(tree, none);
        }

        @Override
        public Void visitSynchronized(SynchronizedTree tree, Void none) {
            broken("synchronized in " + method);
            return super.visitSynchronized(tree, none);
        }
    }
}
