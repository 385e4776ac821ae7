import com.sun.source.tree.AssertTree;
import com.sun.source.tree.BinaryTree;
import com.sun.source.tree.BlockTree;
import com.sun.source.tree.ClassTree;
import com.sun.source.tree.CompilationUnitTree;
import com.sun.source.tree.CompoundAssignmentTree;
import com.sun.source.tree.DoWhileLoopTree;
import com.sun.source.tree.ExpressionTree;
import com.sun.source.tree.ForLoopTree;
import com.sun.source.tree.ImportTree;
import com.sun.source.tree.LambdaExpressionTree;
import com.sun.source.tree.LiteralTree;
import com.sun.source.tree.MemberReferenceTree;
import com.sun.source.tree.MethodInvocationTree;
import com.sun.source.tree.MethodTree;
import com.sun.source.tree.NewClassTree;
import com.sun.source.tree.SynchronizedTree;
import com.sun.source.tree.ThrowTree;
import com.sun.source.tree.Tree;
import com.sun.source.tree.TryTree;
import com.sun.source.tree.TypeCastTree;
import com.sun.source.tree.VariableTree;
import com.sun.source.tree.WhileLoopTree;
import com.sun.source.util.JavacTask;
import com.sun.source.util.TreePath;
import com.sun.source.util.TreePathScanner;
import com.sun.source.util.Trees;
import java.io.IOException;
import java.nio.file.Path;
import java.util.ArrayList;
import java.util.HashMap;
import java.util.HashSet;
import java.util.LinkedHashMap;
import java.util.LinkedHashSet;
import java.util.List;
import java.util.Map;
import java.util.Set;
import javax.lang.model.element.Element;
import javax.lang.model.element.ElementKind;
import javax.lang.model.element.Modifier;
import javax.lang.model.element.TypeElement;
import javax.lang.model.type.TypeMirror;
import javax.tools.JavaCompiler;
import javax.tools.StandardJavaFileManager;
import javax.tools.ToolProvider;

/** What a machine can see of the rules of ../shared/LANGUAGE.md, looked for in StoryRound.java. */
public final class LanguageTest {
    private static final String FILE = "src/main/java/StoryRound.java";
    private static final int MOST_LINES = 60, MOST_PARAMETERS = 7, MOST_CLASSES = 12, MOST_FIELDS = 20, MOST_DEEP = 8;
    private static final int GREATEST_SIGN = 127;

    private static final Set<String> FACE = Set.of("<init>", "BAD", "STATE", "FULL", "NONE", "feed", "drop", "compile", "body",
            "voice", "resume", "inject", "close", "sweep", "answer", "told", "local", "lines", "line", "handings", "handing",
            "failures", "failure", "ring", "count", "digest");
    private static final Set<String> LIBRARY = Set.of(
            "String.length", "String.charAt", "String.isEmpty", "String.equals", "String.indexOf", "String.substring",
            "String.toCharArray", "StringBuilder.<init>", "StringBuilder.append", "StringBuilder.charAt",
            "StringBuilder.setCharAt", "StringBuilder.setLength", "StringBuilder.deleteCharAt", "StringBuilder.reverse",
            "StringBuilder.length", "StringBuilder.toString", "ArrayList.<init>", "List.add", "List.get", "List.set",
            "List.remove", "List.size", "List.isEmpty", "List.clear", "System.arraycopy", "Arrays.copyOf",
            "Arrays.copyOfRange", "Arrays.fill", "Math.max", "Math.min", "Math.abs", "Math.floorDiv", "Math.floorMod",
            "Integer.compare", "Integer.bitCount", "Long.compare", "Object.<init>");
    private static final Set<String> TYPES = Set.of("void", "boolean", "byte", "short", "char", "int", "long", "float", "double",
            "java.lang.String", "java.lang.StringBuilder");

    public static void main(String[] args) throws IOException {
        JavaCompiler compiler = ToolProvider.getSystemJavaCompiler();
        StandardJavaFileManager files = compiler.getStandardFileManager(null, null, null);
        JavacTask task = (JavacTask) compiler.getTask(null, files, null, List.of("-proc:none"), null,
                files.getJavaFileObjects(Path.of(FILE)));
        CompilationUnitTree unit = task.parse().iterator().next();
        task.analyze();
        Scan scan = new Scan(unit, Trees.instance(task));
        scan.scan(unit, null);
        scan.lookAtAll();
        Due.is("whether the methods were seen", scan.calls.size() > FACE.size() ? 1 : 0, 1);
        Due.end();
    }

    private static final class Scan extends TreePathScanner<Void, Void> {
        final Map<Element, Set<Element>> calls = new LinkedHashMap<>();
        private final CompilationUnitTree unit;
        private final Trees trees;
        private final Set<String> openNames = new HashSet<>();
        private final Set<String> privateNames = new HashSet<>();
        private int classes;
        private Element method;

        Scan(CompilationUnitTree unit, Trees trees) {
            this.unit = unit;
            this.trees = trees;
        }

        void lookAtAll() {
            Due.is("no package", unit.getPackageName() == null ? 1 : 0, 1);
            Due.is("one class stands outside", unit.getTypeDecls().size(), 1);
            Due.is("rule 1: the face", openNames.equals(FACE) ? 1 : 0, 1);
            privateNames.retainAll(FACE);
            Due.is("rule 1: private names of public methods " + privateNames, privateNames.size(), 0);
            Due.is("rule 11: at most twelve classes", classes <= MOST_CLASSES ? 1 : 0, 1);
            Due.is("rule 11: calls go at most eight deep", new Chains(calls).longest() <= MOST_DEEP ? 1 : 0, 1);
        }

        private void refuse(int rule, Tree at) {
            long line = unit.getLineMap().getLineNumber(trees.getSourcePositions().getStartPosition(unit, at));
            String text = at.toString();
            Due.is("rule " + rule + " in line " + line + ": " + text.substring(0, Math.min(60, text.length())), 1, 0);
        }

        private void want(boolean holds, int rule, Tree at) {
            if (!holds) {
                refuse(rule, at);
            }
        }

        private Element element() {
            return trees.getElement(getCurrentPath());
        }

        private TypeMirror typeOf(Tree tree) {
            return trees.getTypeMirror(new TreePath(getCurrentPath(), tree));
        }

        @Override
        public Void visitImport(ImportTree tree, Void none) {
            String name = tree.getQualifiedIdentifier().toString();
            want(Set.of("java.util.Arrays", "java.util.ArrayList", "java.util.List").contains(name), 4, tree);
            return super.visitImport(tree, none);
        }

        @Override
        public Void visitClass(ClassTree tree, Void none) {
            classes++;
            boolean outer = getCurrentPath().getParentPath().getLeaf() instanceof CompilationUnitTree;
            boolean inClass = getCurrentPath().getParentPath().getLeaf() instanceof ClassTree;
            Set<Modifier> flags = tree.getModifiers().getFlags();
            want(outer || inClass && element().getModifiers().contains(Modifier.STATIC), 2, tree);
            want(outer ? flags.equals(Set.of(Modifier.PUBLIC, Modifier.FINAL))
                    : !flags.contains(Modifier.PUBLIC) && !flags.contains(Modifier.PROTECTED), outer ? 1 : 2, tree);
            int fields = 0;
            for (Tree member : tree.getMembers()) {
                boolean isField = member instanceof VariableTree;
                fields += isField && !((VariableTree) member).getModifiers().getFlags().contains(Modifier.STATIC) ? 1 : 0;
                want(!(member instanceof BlockTree), 5, member);
            }
            want(fields <= MOST_FIELDS, 11, tree);
            return super.visitClass(tree, none);
        }

        @Override
        public Void visitMethod(MethodTree tree, Void none) {
            method = element();
            calls.putIfAbsent(method, new LinkedHashSet<>());
            noteName(method);
            want(tree.getParameters().size() <= MOST_PARAMETERS, 11, tree);
            want(lines(tree) <= MOST_LINES, 11, tree);
            want(!Set.of("equals", "hashCode", "toString").contains(tree.getName().toString()), 6, tree);
            if (tree.getReturnType() != null) {
                wantType(typeOf(tree.getReturnType()), tree);
            }
            return super.visitMethod(tree, none);
        }

        private void noteName(Element one) {
            boolean isInside = one.getEnclosingElement().getEnclosingElement().getKind().isClass();
            boolean isPrivate = one.getModifiers().contains(Modifier.PRIVATE);
            if (isPrivate && one.getKind() == ElementKind.METHOD) {
                privateNames.add(one.getSimpleName().toString());
            } else if (!isInside && !isPrivate) {
                want(one.getModifiers().contains(Modifier.PUBLIC), 1, trees.getTree(one));
                openNames.add(one.getSimpleName().toString());
            }
        }

        private long lines(Tree tree) {
            long from = trees.getSourcePositions().getStartPosition(unit, tree);
            long to = trees.getSourcePositions().getEndPosition(unit, tree);
            return unit.getLineMap().getLineNumber(to) - unit.getLineMap().getLineNumber(from) + 1;
        }

        @Override
        public Void visitVariable(VariableTree tree, Void none) {
            Element one = element();
            wantType(one.asType(), tree);
            if (one.getKind().isField()) {
                noteName(one);
                Set<Modifier> flags = one.getModifiers();
                want(!flags.contains(Modifier.STATIC) || flags.contains(Modifier.FINAL), 5, tree);
            }
            return super.visitVariable(tree, none);
        }

        private void wantType(TypeMirror type, Tree at) {
            String name = type.toString();
            String item = name.replace("[]", "");
            int dimensions = (name.length() - item.length()) / 2;
            boolean own = item.startsWith("StoryRound");
            want(own || TYPES.contains(item), 3, at);
            want(dimensions <= (own || item.startsWith("java") ? 1 : 2), 3, at);
        }

        @Override
        public Void visitMethodInvocation(MethodInvocationTree tree, Void none) {
            noteCall(trees.getElement(new TreePath(getCurrentPath(), tree.getMethodSelect())), tree);
            return super.visitMethodInvocation(tree, none);
        }

        @Override
        public Void visitNewClass(NewClassTree tree, Void none) {
            want(tree.getClassBody() == null, 2, tree);
            noteCall(element(), tree);
            return super.visitNewClass(tree, none);
        }

        private void noteCall(Element called, Tree at) {
            TypeElement owner = (TypeElement) called.getEnclosingElement();
            if (owner.getQualifiedName().toString().startsWith("StoryRound")) {
                calls.computeIfAbsent(method, key -> new LinkedHashSet<>()).add(called);
                calls.putIfAbsent(called, new LinkedHashSet<>());
            } else {
                want(LIBRARY.contains(owner.getSimpleName() + "." + called.getSimpleName()), 4, at);
            }
        }

        @Override
        public Void visitBinary(BinaryTree tree, Void none) {
            boolean text = isText(tree.getLeftOperand()) || isText(tree.getRightOperand());
            want(!text, tree.getKind() == Tree.Kind.PLUS ? 10 : 6, tree);
            return super.visitBinary(tree, none);
        }

        @Override
        public Void visitCompoundAssignment(CompoundAssignmentTree tree, Void none) {
            want(!isText(tree.getVariable()), 10, tree);
            return super.visitCompoundAssignment(tree, none);
        }

        private boolean isText(ExpressionTree tree) {
            String type = String.valueOf(typeOf(tree));
            return type.equals("java.lang.String") || type.equals("java.lang.Integer");
        }

        @Override
        public Void visitTypeCast(TypeCastTree tree, Void none) {
            TypeMirror type = typeOf(tree.getType());
            want(type.getKind().isPrimitive() || type.toString().startsWith("StoryRound"), 6, tree);
            return super.visitTypeCast(tree, none);
        }

        @Override
        public Void visitLiteral(LiteralTree tree, Void none) {
            if (tree.getValue() instanceof String) {
                String text = (String) tree.getValue();
                want(text.chars().allMatch(sign -> sign >= 1 && sign <= GREATEST_SIGN), 4, tree);
            }
            return super.visitLiteral(tree, none);
        }

        @Override
        public Void visitForLoop(ForLoopTree tree, Void none) {
            want(tree.getCondition() != null && !isAlways(tree.getCondition()), 9, tree);
            return super.visitForLoop(tree, none);
        }

        @Override
        public Void visitWhileLoop(WhileLoopTree tree, Void none) {
            want(!isAlways(tree.getCondition()), 9, tree);
            return super.visitWhileLoop(tree, none);
        }

        @Override
        public Void visitDoWhileLoop(DoWhileLoopTree tree, Void none) {
            want(!isAlways(tree.getCondition()), 9, tree);
            return super.visitDoWhileLoop(tree, none);
        }

        private static boolean isAlways(ExpressionTree condition) {
            return condition.toString().replace("(", "").replace(")", "").equals("true");
        }

        @Override
        public Void visitLambdaExpression(LambdaExpressionTree tree, Void none) {
            refuse(2, tree);
            return super.visitLambdaExpression(tree, none);
        }

        @Override
        public Void visitMemberReference(MemberReferenceTree tree, Void none) {
            refuse(2, tree);
            return super.visitMemberReference(tree, none);
        }

        @Override
        public Void visitThrow(ThrowTree tree, Void none) {
            refuse(6, tree);
            return super.visitThrow(tree, none);
        }

        @Override
        public Void visitTry(TryTree tree, Void none) {
            refuse(6, tree);
            return super.visitTry(tree, none);
        }

        @Override
        public Void visitSynchronized(SynchronizedTree tree, Void none) {
            refuse(6, tree);
            return super.visitSynchronized(tree, none);
        }

        @Override
        public Void visitAssert(AssertTree tree, Void none) {
            refuse(6, tree);
            return super.visitAssert(tree, none);
        }
    }

    /** How deep calls go that are no recursion: methods that call one another in a circle count as one. */
    private static final class Chains {
        private final Map<Element, Set<Element>> calls;
        private final Map<Element, Set<Element>> reached = new HashMap<>();
        private final Map<Element, Integer> depths = new HashMap<>();

        Chains(Map<Element, Set<Element>> calls) {
            this.calls = calls;
            for (Element one : calls.keySet()) {
                reached.put(one, reachedFrom(one));
            }
        }

        private Set<Element> reachedFrom(Element one) {
            Set<Element> found = new LinkedHashSet<>();
            List<Element> open = new ArrayList<>(calls.get(one));
            while (!open.isEmpty()) {
                Element next = open.remove(open.size() - 1);
                if (found.add(next)) {
                    open.addAll(calls.get(next));
                }
            }
            return found;
        }

        int longest() {
            int longest = 0;
            for (Element one : calls.keySet()) {
                longest = Math.max(longest, depth(one));
            }
            return longest;
        }

        private boolean isCircle(Element a, Element b) {
            return a == b || reached.get(a).contains(b) && reached.get(b).contains(a);
        }

        private int depth(Element one) {
            Integer known = depths.get(one);
            if (known != null) {
                return known;
            }
            int below = 0;
            for (Element circled : calls.keySet()) {
                if (isCircle(one, circled)) {
                    for (Element called : calls.get(circled)) {
                        below = Math.max(below, isCircle(one, called) ? 0 : depth(called));
                    }
                }
            }
            depths.put(one, below + 1);
            return below + 1;
        }
    }
}
