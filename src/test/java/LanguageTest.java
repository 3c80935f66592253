import com.sun.source.tree.BinaryTree;
import com.sun.source.tree.ClassTree;
import com.sun.source.tree.CompilationUnitTree;
import com.sun.source.tree.MethodInvocationTree;
import com.sun.source.tree.MethodTree;
import com.sun.source.tree.NewClassTree;
import com.sun.source.tree.Tree;
import com.sun.source.tree.TypeCastTree;
import com.sun.source.tree.VariableTree;
import com.sun.source.util.JavacTask;
import com.sun.source.util.TreePath;
import com.sun.source.util.TreePathScanner;
import com.sun.source.util.Trees;
import java.nio.file.Path;
import java.util.EnumSet;
import java.util.HashMap;
import java.util.HashSet;
import java.util.LinkedHashSet;
import java.util.List;
import java.util.Map;
import java.util.Set;
import javax.lang.model.element.Element;
import javax.lang.model.element.ElementKind;
import javax.lang.model.element.Modifier;
import javax.lang.model.type.ArrayType;
import javax.lang.model.type.TypeKind;
import javax.lang.model.type.TypeMirror;
import javax.tools.JavaCompiler;
import javax.tools.StandardJavaFileManager;
import javax.tools.ToolProvider;

/** Rules of LANGUAGE.md that can be seen in the tree that javac makes of the class. */
final class LanguageTest extends TestBase {
    private static final Set<Tree.Kind> FORBIDDEN = EnumSet.of(Tree.Kind.THROW, Tree.Kind.TRY, Tree.Kind.CATCH,
        Tree.Kind.SYNCHRONIZED, Tree.Kind.ASSERT, Tree.Kind.LAMBDA_EXPRESSION, Tree.Kind.MEMBER_REFERENCE);

    /** What the class uses of the library; whoever needs more has to find it in rule 4. */
    private static final Set<String> LIBRARY = Set.of("java.lang.Math.max", "java.util.Arrays.fill");

    private static final int MOST_LINES = 60;
    private static final int MOST_CALLS_DEEP = 8;

    public static void main(String[] args) throws Exception {
        JavaCompiler compiler = ToolProvider.getSystemJavaCompiler();
        try (StandardJavaFileManager files = compiler.getStandardFileManager(null, null, null)) {
            JavacTask task = (JavacTask) compiler.getTask(null, files, null, List.of("-proc:none"), null,
                files.getJavaFileObjects(Path.of(args[0])));
            CompilationUnitTree unit = task.parse().iterator().next();
            task.analyze();
            Scan scan = new Scan(Trees.instance(task), unit);
            scan.scan(unit, null);
            scan.checkNames();
            scan.checkDepth();
        }
        close();
    }

    private static final class Scan extends TreePathScanner<Void, Void> {
        private final Trees trees;
        private final CompilationUnitTree unit;
        private final Set<String> publicNames = new HashSet<>();
        private final Set<String> otherNames = new HashSet<>();
        /** Which methods each method calls; those of the library as texts. */
        private final Map<Object, Set<Object>> calls = new HashMap<>();
        private Element method;

        Scan(Trees trees, CompilationUnitTree unit) {
            this.trees = trees;
            this.unit = unit;
        }

        private long lineAt(long position) {
            return unit.getLineMap().getLineNumber(position);
        }

        private void refuse(int rule, String what, boolean broken) {
            due("rule " + rule + ": " + what, broken ? 1 : 0, 0);
        }

        @Override
        public Void scan(Tree tree, Void none) {
            if (tree != null && FORBIDDEN.contains(tree.getKind())) {
                refuse(6, tree.toString(), true);
            }
            return super.scan(tree, none);
        }

        @Override
        public Void visitClass(ClassTree tree, Void none) {
            Tree around = getCurrentPath().getParentPath().getLeaf();
            refuse(2, tree.getSimpleName() + " is local or anonymous", !(around instanceof ClassTree) && around != unit);
            return super.visitClass(tree, none);
        }

        @Override
        public Void visitMethod(MethodTree tree, Void none) {
            method = trees.getElement(getCurrentPath());
            calls.put(method, new LinkedHashSet<>());
            if (method.getKind() == ElementKind.METHOD) {
                boolean isPublic = method.getModifiers().contains(Modifier.PUBLIC);
                (isPublic ? publicNames : otherNames).add(tree.getName().toString());
            }
            long first = trees.getSourcePositions().getStartPosition(unit, tree);
            long last = trees.getSourcePositions().getEndPosition(unit, tree);
            if (first >= 0 && last > first) {
                refuse(11, tree.getName() + " is too long", lineAt(last) - lineAt(first) >= MOST_LINES);
            }
            refuse(11, tree.getName() + " has too many parameters", tree.getParameters().size() > 7);
            checkType(tree.getName().toString(), tree.getReturnType());
            super.visitMethod(tree, none);
            method = null;
            return null;
        }

        @Override
        public Void visitVariable(VariableTree tree, Void none) {
            Element variable = trees.getElement(getCurrentPath());
            checkType(tree.getName().toString(), tree.getType());
            if (variable.getKind() == ElementKind.FIELD && variable.getModifiers().contains(Modifier.STATIC)) {
                refuse(5, tree.getName() + " is static, but no constant",
                    !variable.getModifiers().contains(Modifier.FINAL) || !variable.asType().getKind().isPrimitive());
            }
            return super.visitVariable(tree, none);
        }

        @Override
        public Void visitTypeCast(TypeCastTree tree, Void none) {
            refuse(6, tree + " is a cast to no number", !typeOf(tree.getType()).getKind().isPrimitive());
            return super.visitTypeCast(tree, none);
        }

        @Override
        public Void visitBinary(BinaryTree tree, Void none) {
            boolean numbers = typeOf(tree.getLeftOperand()).getKind().isPrimitive() && typeOf(tree.getRightOperand()).getKind().isPrimitive();
            boolean compares = tree.getKind() == Tree.Kind.EQUAL_TO || tree.getKind() == Tree.Kind.NOT_EQUAL_TO;
            refuse(10, tree + " is no reckoning of numbers", !numbers && !compares);
            return super.visitBinary(tree, none);
        }

        @Override
        public Void visitMethodInvocation(MethodInvocationTree tree, Void none) {
            noteCall(trees.getElement(getCurrentPath()));
            return super.visitMethodInvocation(tree, none);
        }

        @Override
        public Void visitNewClass(NewClassTree tree, Void none) {
            noteCall(trees.getElement(getCurrentPath()));
            return super.visitNewClass(tree, none);
        }

        private TypeMirror typeOf(Tree tree) {
            return trees.getTypeMirror(new TreePath(getCurrentPath(), tree));
        }

        private static boolean isOwn(String name) {
            return name.equals("TrialStair") || name.startsWith("TrialStair.");
        }

        private void checkType(String what, Tree type) {
            if (type == null) {
                return;
            }
            TypeMirror told = typeOf(type);
            TypeMirror part = told.getKind() == TypeKind.ARRAY ? ((ArrayType) told).getComponentType() : told;
            boolean own = part.getKind() == TypeKind.DECLARED && isOwn(part.toString());
            boolean allowed = part.getKind().isPrimitive() || part.getKind() == TypeKind.VOID || own;
            refuse(3, what + " is a " + told, !allowed);
        }

        private void noteCall(Element called) {
            Element owner = called.getEnclosingElement();
            if (owner.toString().equals("java.lang.Object")) {
                return;
            }
            boolean own = isOwn(owner.toString());
            String name = owner + "." + called.getSimpleName();
            refuse(4, name + " is used", !own && !LIBRARY.contains(name));
            if (method != null) {
                calls.get(method).add(own ? called : name);
            }
        }

        void checkNames() {
            refuse(1, "there is no public method", publicNames.isEmpty());
            for (String name : otherNames) {
                refuse(1, name + " bears a public one's name", publicNames.contains(name));
            }
        }

        void checkDepth() {
            for (Object caller : calls.keySet()) {
                int deep = depthOf(caller, 1);
                refuse(11, caller + " goes " + deep + " calls deep, or calls itself", deep > MOST_CALLS_DEEP);
            }
        }

        /** A method that calls itself would go deeper than any that is allowed. */
        private int depthOf(Object caller, int level) {
            int deepest = level;
            for (Object called : calls.getOrDefault(caller, Set.of())) {
                if (level <= MOST_CALLS_DEEP) {
                    deepest = Math.max(deepest, depthOf(called, level + 1));
                }
            }
            return deepest;
        }
    }
}
