import com.sun.source.tree.BlockTree;
import com.sun.source.tree.CatchTree;
import com.sun.source.tree.ClassTree;
import com.sun.source.tree.CompilationUnitTree;
import com.sun.source.tree.ImportTree;
import com.sun.source.tree.LambdaExpressionTree;
import com.sun.source.tree.MemberReferenceTree;
import com.sun.source.tree.MethodInvocationTree;
import com.sun.source.tree.MethodTree;
import com.sun.source.tree.NewArrayTree;
import com.sun.source.tree.NewClassTree;
import com.sun.source.tree.ThrowTree;
import com.sun.source.tree.Tree;
import com.sun.source.tree.TryTree;
import com.sun.source.tree.TypeCastTree;
import com.sun.source.tree.VariableTree;
import com.sun.source.util.JavacTask;
import com.sun.source.util.TreePathScanner;
import com.sun.source.util.Trees;
import java.io.File;
import java.util.ArrayList;
import java.util.HashMap;
import java.util.LinkedHashSet;
import java.util.List;
import java.util.Map;
import java.util.Set;
import javax.lang.model.element.Element;
import javax.lang.model.element.Modifier;
import javax.lang.model.element.TypeElement;
import javax.tools.JavaCompiler;
import javax.tools.StandardJavaFileManager;
import javax.tools.ToolProvider;

/** The program's source keeps to what of LANGUAGE.md can be counted; no call makes an object. */
public final class RuleTest {
    private static final Set<String> LIBRARY = Set.of("java.lang.Math.max", "java.lang.Math.min",
        "java.lang.Integer.bitCount", "java.lang.System.arraycopy", "java.util.Arrays.fill",
        "java.lang.StringBuilder.append", "java.lang.AbstractStringBuilder.setLength",
        "java.lang.AbstractStringBuilder.length", "java.lang.AbstractStringBuilder.charAt");

    private final Checks checks = new Checks("RuleTest");
    private final Map<Element, Set<Element>> callsOf = new HashMap<>();
    private final Map<Element, Integer> depths = new HashMap<>();
    private Trees trees;
    private CompilationUnitTree unit;

    private long line(long position) {
        return unit.getLineMap().getLineNumber(position);
    }

    private long lines(Tree tree) {
        return line(trees.getSourcePositions().getEndPosition(unit, tree))
            - line(trees.getSourcePositions().getStartPosition(unit, tree)) + 1;
    }

    private static String fullName(Element method) {
        return ((TypeElement) method.getEnclosingElement()).getQualifiedName() + "." + method.getSimpleName();
    }

    /** How many calls stand open at once from a method of the program on. */
    private int depth(Element method, List<Element> open) {
        if (!callsOf.containsKey(method)) {
            return 1;
        }
        if (depths.containsKey(method)) {
            return depths.get(method);
        }
        checks.holds(fullName(method) + " does not call itself", !open.contains(method));
        if (open.contains(method)) {
            return 99;
        }
        open.add(method);
        int deepest = 0;
        for (Element called : callsOf.get(method)) {
            deepest = Math.max(deepest, depth(called, open));
        }
        open.remove(method);
        depths.put(method, deepest + 1);
        return deepest + 1;
    }

    private final class Scanner extends TreePathScanner<Void, Element> {
        private int classes;

        @Override
        public Void visitClass(ClassTree tree, Element method) {
            classes++;
            int fields = 0;
            for (Tree member : tree.getMembers()) {
                if (member instanceof VariableTree field) {
                    boolean isStatic = field.getModifiers().getFlags().contains(Modifier.STATIC);
                    fields += isStatic ? 0 : 1;
                    checks.holds(field.getName() + " is final if it is static",
                        !isStatic || field.getModifiers().getFlags().contains(Modifier.FINAL));
                }
                checks.holds("no initialiser block", !(member instanceof BlockTree));
            }
            checks.holds(tree.getSimpleName() + " has at most 20 fields", fields <= 20);
            return super.visitClass(tree, null);
        }

        @Override
        public Void visitMethod(MethodTree tree, Element method) {
            Element here = trees.getElement(getCurrentPath());
            callsOf.put(here, new LinkedHashSet<>());
            checks.holds(tree.getName() + " has at most 60 lines", lines(tree) <= 60);
            checks.holds(tree.getName() + " has at most 7 parameters", tree.getParameters().size() <= 7);
            return super.visitMethod(tree, here);
        }

        @Override
        public Void visitMethodInvocation(MethodInvocationTree tree, Element method) {
            Element called = trees.getElement(getCurrentPath());
            String name = fullName(called);
            if (!name.startsWith("GangColumns") && !called.getSimpleName().contentEquals("<init>")) {
                checks.holds(name + " is in the library of rule 4", LIBRARY.contains(name));
            }
            if (method != null && !name.startsWith("java.lang.Object.")) {
                callsOf.get(method).add(called);
            }
            return super.visitMethodInvocation(tree, method);
        }

        @Override
        public Void visitNewClass(NewClassTree tree, Element method) {
            checks.holds("no method makes an object: line " + line(trees.getSourcePositions()
                .getStartPosition(unit, tree)), method == null);
            return super.visitNewClass(tree, method);
        }

        @Override
        public Void visitNewArray(NewArrayTree tree, Element method) {
            checks.holds("no method makes an array: line " + line(trees.getSourcePositions()
                .getStartPosition(unit, tree)), method == null);
            return super.visitNewArray(tree, method);
        }

        @Override
        public Void visitLambdaExpression(LambdaExpressionTree tree, Element method) {
            checks.holds("no lambda", false);
            return null;
        }

        @Override
        public Void visitMemberReference(MemberReferenceTree tree, Element method) {
            checks.holds("no method reference", false);
            return null;
        }

        @Override
        public Void visitTry(TryTree tree, Element method) {
            checks.holds("no try: nothing is thrown", false);
            return null;
        }

        @Override
        public Void visitCatch(CatchTree tree, Element method) {
            checks.holds("no catch", false);
            return null;
        }

        @Override
        public Void visitThrow(ThrowTree tree, Element method) {
            checks.holds("no throw: the document names no exception", false);
            return null;
        }

        @Override
        public Void visitTypeCast(TypeCastTree tree, Element method) {
            checks.holds("a cast is one to long", tree.getType().toString().equals("long"));
            return super.visitTypeCast(tree, method);
        }

        @Override
        public Void visitImport(ImportTree tree, Element method) {
            checks.holds("the import is java.util.Arrays",
                tree.getQualifiedIdentifier().toString().equals("java.util.Arrays"));
            return null;
        }
    }

    private void go() throws Exception {
        JavaCompiler compiler = ToolProvider.getSystemJavaCompiler();
        try (StandardJavaFileManager files = compiler.getStandardFileManager(null, null, null)) {
            JavacTask task = (JavacTask) compiler.getTask(null, files, null, List.of("-proc:none"), null,
                files.getJavaFileObjects(new File("src/main/java/GangColumns.java")));
            trees = Trees.instance(task);
            unit = task.parse().iterator().next();
            task.analyze();
            checks.about("language");
            Scanner scanner = new Scanner();
            scanner.scan(unit, null);
            checks.holds("at most 12 classes, not " + scanner.classes, scanner.classes <= 12);
            checks.holds("no package", unit.getPackageName() == null);
            int deepest = 0;
            for (Element method : callsOf.keySet()) {
                deepest = Math.max(deepest, depth(method, new ArrayList<>()));
            }
            checks.holds("calls go at most eight deep, not " + deepest, deepest <= 8);
        }
        checks.end();
    }

    public static void main(String[] args) throws Exception {
        new RuleTest().go();
    }
}
