import com.sun.source.tree.ArrayTypeTree;
import com.sun.source.tree.AssertTree;
import com.sun.source.tree.BinaryTree;
import com.sun.source.tree.BlockTree;
import com.sun.source.tree.ClassTree;
import com.sun.source.tree.CompilationUnitTree;
import com.sun.source.tree.CompoundAssignmentTree;
import com.sun.source.tree.DoWhileLoopTree;
import com.sun.source.tree.ForLoopTree;
import com.sun.source.tree.ImportTree;
import com.sun.source.tree.LambdaExpressionTree;
import com.sun.source.tree.LiteralTree;
import com.sun.source.tree.MemberReferenceTree;
import com.sun.source.tree.MethodInvocationTree;
import com.sun.source.tree.MethodTree;
import com.sun.source.tree.NewArrayTree;
import com.sun.source.tree.NewClassTree;
import com.sun.source.tree.SynchronizedTree;
import com.sun.source.tree.ThrowTree;
import com.sun.source.tree.Tree;
import com.sun.source.tree.TryTree;
import com.sun.source.tree.TypeCastTree;
import com.sun.source.tree.VariableTree;
import com.sun.source.tree.WhileLoopTree;
import com.sun.source.util.JavacTask;
import com.sun.source.util.TreePath;
import com.sun.source.util.TreePathScanner;
import com.sun.source.util.Trees;
import java.io.IOException;
import java.nio.file.Path;
import java.util.ArrayList;
import java.util.HashMap;
import java.util.HashSet;
import java.util.LinkedHashSet;
import java.util.List;
import java.util.Map;
import java.util.Set;
import javax.lang.model.element.Element;
import javax.lang.model.element.ElementKind;
import javax.lang.model.element.Modifier;
import javax.lang.model.type.ArrayType;
import javax.lang.model.type.TypeKind;
import javax.lang.model.type.TypeMirror;
import javax.tools.JavaCompiler;
import javax.tools.StandardJavaFileManager;
import javax.tools.ToolProvider;

/** The rules of LANGUAGE.md that can be seen in the program's text, told by their numbers. */
public final class LanguageTest {
    private static final Path PROGRAM = Path.of("src/main/java/TurnHouse.java");
    private static final Set<String> IMPORTS = Set.of("java.util.Arrays", "java.util.ArrayList", "java.util.List", "java.util.Iterator");
    /** Rule 4, a class with its methods each; of Integer, Long and Math all static ones but those in Exact. */
    private static final Map<String, String> LIBRARY = Map.of(
        "java.lang.String", "length charAt isEmpty equals indexOf substring toCharArray",
        "java.lang.StringBuilder", "append charAt setCharAt setLength deleteCharAt reverse length toString",
        "java.util.ArrayList", "add get set remove size isEmpty clear",
        "java.util.List", "add get set remove size isEmpty clear of",
        "java.lang.System", "arraycopy",
        "java.util.Arrays", "copyOf copyOfRange fill",
        "Array", "clone");
    private static final Set<String> NUMBERS = Set.of("java.lang.Integer", "java.lang.Long", "java.lang.Math");
    private static final Set<String> CLASSES = Set.of("java.lang.String", "java.lang.StringBuilder", "java.lang.Integer",
        "java.util.ArrayList", "java.util.List");
    private static final Set<String> CONSTANTS = Set.of("int", "long", "boolean", "char", "java.lang.String",
        "int[]", "long[]", "char[]", "byte[]");
    private static final int MOST_PARAMETERS = 7, MOST_LINES = 60, MOST_CLASSES = 12, MOST_FIELDS = 20, DEEPEST = 8;

    private static CompilationUnitTree unit;
    private static Trees trees;
    /** The methods of the program, each with those that it calls. */
    private static final Map<Element, Set<Element>> CALLS = new HashMap<>();
    /** How deep the calls from a method go. */
    private static final Map<Element, Integer> DEPTHS = new HashMap<>();
    private static int classes;

    public static void main(String[] args) throws IOException {
        JavaCompiler compiler = ToolProvider.getSystemJavaCompiler();
        try (StandardJavaFileManager files = compiler.getStandardFileManager(null, null, null)) {
            JavacTask task = (JavacTask) compiler.getTask(null, files, null, List.of("-proc:none"), null,
                files.getJavaFileObjects(PROGRAM));
            unit = task.parse().iterator().next();
            task.analyze();
            trees = Trees.instance(task);
            importsAndPackage();
            new Rules().scan(unit, null);
        }
        House.due("rule 11: more than " + MOST_CLASSES + " classes", classes > MOST_CLASSES ? classes : 0, 0);
        recursionIsPrivate();
        callsAreShallow();
        House.finish();
    }

    private static void importsAndPackage() {
        House.due("rule 1: a package line", unit.getPackageName() == null ? 0 : 1, 0);
        for (ImportTree one : unit.getImports()) {
            String name = one.getQualifiedIdentifier().toString();
            House.due("rule 4: import of " + name, IMPORTS.contains(name) && !one.isStatic() ? 0 : 1, 0);
        }
    }

    private static void broken(int rule, String what, Tree where) {
        long line = unit.getLineMap().getLineNumber(trees.getSourcePositions().getStartPosition(unit, where));
        House.due("rule " + rule + ": " + what + " in line " + line, 1, 0);
    }

    private static boolean isOwn(Element element) {
        for (Element one = element; one != null; one = one.getEnclosingElement()) {
            if (one.getSimpleName().contentEquals("TurnHouse")) {
                return true;
            }
        }
        return false;
    }

    private static final class Rules extends TreePathScanner<Void, Void> {
        private Element method;
        private boolean inLoop;

        private TypeMirror typeOf(Tree tree) {
            return trees.getTypeMirror(new TreePath(getCurrentPath(), tree));
        }

        @Override
        public Void visitClass(ClassTree tree, Void none) {
            classes++;
            boolean inside = getCurrentPath().getParentPath().getLeaf() != unit;
            Set<Modifier> flags = tree.getModifiers().getFlags();
            if (inside && (method != null || !flags.contains(Modifier.STATIC) || flags.contains(Modifier.PUBLIC)
                || flags.contains(Modifier.PROTECTED))) {
                broken(2, "class " + tree.getSimpleName() + " that is no static one inside the program's class", tree);
            }
            int fields = 0;
            for (Tree member : tree.getMembers()) {
                boolean isField = member instanceof VariableTree;
                fields += isField && !((VariableTree) member).getModifiers().getFlags().contains(Modifier.STATIC) ? 1 : 0;
                if (member instanceof BlockTree) {
                    broken(5, "an initialiser block", member);
                }
            }
            House.due("rule 11: fields of " + tree.getSimpleName() + " above " + MOST_FIELDS, Math.max(fields, MOST_FIELDS), MOST_FIELDS);
            return super.visitClass(tree, none);
        }

        @Override
        public Void visitMethod(MethodTree tree, Void none) {
            method = trees.getElement(getCurrentPath());
            CALLS.put(method, new LinkedHashSet<>());
            long from = unit.getLineMap().getLineNumber(trees.getSourcePositions().getStartPosition(unit, tree));
            long to = unit.getLineMap().getLineNumber(trees.getSourcePositions().getEndPosition(unit, tree));
            if (to - from >= MOST_LINES) {
                broken(11, "a method of " + (to - from + 1) + " lines", tree);
            }
            if (tree.getParameters().size() > MOST_PARAMETERS) {
                broken(11, "a method of " + tree.getParameters().size() + " parameters", tree);
            }
            if (Set.of("equals", "hashCode", "toString").contains(tree.getName().toString())) {
                broken(6, "an own " + tree.getName(), tree);
            }
            if (tree.getReturnType() != null) {
                checkType(tree.getReturnType(), typeOf(tree.getReturnType()));
            }
            super.visitMethod(tree, none);
            method = null;
            return null;
        }

        @Override
        public Void visitVariable(VariableTree tree, Void none) {
            TypeMirror type = typeOf(tree);
            checkType(tree, type);
            Set<Modifier> flags = tree.getModifiers().getFlags();
            if (flags.contains(Modifier.STATIC)) {
                boolean isConstant = flags.contains(Modifier.FINAL) && CONSTANTS.contains(type.toString());
                boolean isMade = type.getKind() == TypeKind.ARRAY && (!(tree.getInitializer() instanceof NewArrayTree)
                    || ((NewArrayTree) tree.getInitializer()).getInitializers() == null);
                if (!isConstant || isMade) {
                    broken(5, "a static field that is no constant: " + tree.getName(), tree);
                }
            }
            return super.visitVariable(tree, none);
        }

        private void checkType(Tree tree, TypeMirror type) {
            if (type.getKind() == TypeKind.ARRAY) {
                TypeMirror of = ((ArrayType) type).getComponentType();
                boolean twice = of.getKind() == TypeKind.ARRAY;
                TypeMirror last = twice ? ((ArrayType) of).getComponentType() : of;
                boolean isNumber = last.getKind().isPrimitive();
                if (last.getKind() == TypeKind.ARRAY || twice && !isNumber || !isNumber && !last.toString().startsWith("TurnHouse")) {
                    broken(3, "an array of type " + type, tree);
                }
                return;
            }
            String name = type.toString().replaceAll("<.*", "");
            boolean fits = type.getKind().isPrimitive() || type.getKind() == TypeKind.VOID || type.getKind() == TypeKind.TYPEVAR
                || name.startsWith("TurnHouse") || CLASSES.contains(name);
            if (!fits) {
                broken(3, "the type " + type, tree);
            }
        }

        @Override
        public Void visitMethodInvocation(MethodInvocationTree tree, Void none) {
            Element called = trees.getElement(getCurrentPath());
            Element owner = called.getEnclosingElement();
            String name = called.getSimpleName().toString();
            if (isOwn(called)) {
                if (method != null) {
                    CALLS.get(method).add(called);
                }
            } else if (called.getKind() != ElementKind.CONSTRUCTOR) {
                boolean fits = NUMBERS.contains(owner.toString()) && called.getModifiers().contains(Modifier.STATIC) && !name.endsWith("Exact");
                String allowed = LIBRARY.getOrDefault(owner.toString(), "");
                if (!fits && !List.of(allowed.split(" ")).contains(name)) {
                    broken(4, "a call of " + owner + "." + name, tree);
                }
            }
            return super.visitMethodInvocation(tree, none);
        }

        @Override
        public Void visitNewClass(NewClassTree tree, Void none) {
            if (tree.getClassBody() != null) {
                broken(2, "an anonymous class", tree);
            }
            Element made = trees.getElement(getCurrentPath());
            boolean fits = isOwn(made) || CLASSES.contains(made.getEnclosingElement().toString());
            if (!fits) {
                broken(4, "an object of " + made.getEnclosingElement(), tree);
            }
            if (inLoop) {
                broken(12, "an object that is made in a loop", tree);
            }
            return super.visitNewClass(tree, none);
        }

        @Override
        public Void visitNewArray(NewArrayTree tree, Void none) {
            if (inLoop) {
                broken(12, "an array that is made in a loop", tree);
            }
            return super.visitNewArray(tree, none);
        }

        @Override
        public Void visitLiteral(LiteralTree tree, Void none) {
            Object value = tree.getValue();
            String signs = value instanceof String || value instanceof Character ? value.toString() : "";
            for (int i = 0; i < signs.length(); i++) {
                if (signs.charAt(i) < 1 || signs.charAt(i) > 127) {
                    broken(4, "a sign that is not 1 to 127", tree);
                }
            }
            return super.visitLiteral(tree, none);
        }

        @Override
        public Void visitBinary(BinaryTree tree, Void none) {
            boolean same = tree.getKind() == Tree.Kind.EQUAL_TO || tree.getKind() == Tree.Kind.NOT_EQUAL_TO;
            if (same && isText(tree.getLeftOperand()) && isText(tree.getRightOperand())) {
                broken(6, "== or != of two texts", tree);
            }
            if (tree.getKind() == Tree.Kind.PLUS && (isText(tree.getLeftOperand()) || isText(tree.getRightOperand()))) {
                broken(10, "texts joined by +", tree);
            }
            return super.visitBinary(tree, none);
        }

        @Override
        public Void visitCompoundAssignment(CompoundAssignmentTree tree, Void none) {
            if (isText(tree.getVariable())) {
                broken(10, "texts joined by +=", tree);
            }
            return super.visitCompoundAssignment(tree, none);
        }

        private boolean isText(Tree tree) {
            return Set.of("java.lang.String", "java.lang.Integer").contains(String.valueOf(typeOf(tree)));
        }

        @Override
        public Void visitTypeCast(TypeCastTree tree, Void none) {
            if (!typeOf(tree.getType()).getKind().isPrimitive()) {
                broken(6, "a cast to " + tree.getType() + " (look whether a test makes it safe)", tree);
            }
            return super.visitTypeCast(tree, none);
        }

        @Override
        public Void visitForLoop(ForLoopTree tree, Void none) {
            if (tree.getCondition() == null) {
                broken(9, "a loop without an end", tree);
            }
            return withinLoop(() -> super.visitForLoop(tree, none));
        }

        @Override
        public Void visitWhileLoop(WhileLoopTree tree, Void none) {
            checkEnd(tree, tree.getCondition());
            return withinLoop(() -> super.visitWhileLoop(tree, none));
        }

        @Override
        public Void visitDoWhileLoop(DoWhileLoopTree tree, Void none) {
            checkEnd(tree, tree.getCondition());
            return withinLoop(() -> super.visitDoWhileLoop(tree, none));
        }

        private void checkEnd(Tree loop, Tree condition) {
            if (condition.toString().equals("(true)")) {
                broken(9, "a loop without an end", loop);
            }
        }

        private Void withinLoop(Runnable scan) {
            boolean before = inLoop;
            inLoop = true;
            scan.run();
            inLoop = before;
            return null;
        }

        @Override
        public Void visitLambdaExpression(LambdaExpressionTree tree, Void none) {
            broken(2, "a lambda", tree);
            return super.visitLambdaExpression(tree, none);
        }

        @Override
        public Void visitMemberReference(MemberReferenceTree tree, Void none) {
            broken(2, "a method reference", tree);
            return super.visitMemberReference(tree, none);
        }

        @Override
        public Void visitThrow(ThrowTree tree, Void none) {
            broken(6, "throw", tree);
            return super.visitThrow(tree, none);
        }

        @Override
        public Void visitTry(TryTree tree, Void none) {
            broken(6, "try", tree);
            return super.visitTry(tree, none);
        }

        @Override
        public Void visitSynchronized(SynchronizedTree tree, Void none) {
            broken(6, "synchronized", tree);
            return super.visitSynchronized(tree, none);
        }

        @Override
        public Void visitAssert(AssertTree tree, Void none) {
            broken(6, "assert", tree);
            return super.visitAssert(tree, none);
        }

        @Override
        public Void visitArrayType(ArrayTypeTree tree, Void none) {
            checkType(tree, typeOf(tree));
            return super.visitArrayType(tree, none);
        }
    }

    // ---- calls among the methods

    private static Set<Element> reached(Element from) {
        Set<Element> seen = new HashSet<>();
        List<Element> open = new ArrayList<>(CALLS.get(from));
        while (!open.isEmpty()) {
            Element one = open.remove(open.size() - 1);
            if (CALLS.containsKey(one) && seen.add(one)) {
                open.addAll(CALLS.get(one));
            }
        }
        return seen;
    }

    private static void recursionIsPrivate() {
        for (Element one : CALLS.keySet()) {
            boolean isPrivate = one.getModifiers().contains(Modifier.PRIVATE);
            House.due("rule 8: recursion of " + one + ", which is not private", reached(one).contains(one) && !isPrivate ? 1 : 0, 0);
        }
    }

    private static void callsAreShallow() {
        Map<Element, Set<Element>> all = new HashMap<>();
        for (Element one : CALLS.keySet()) {
            all.put(one, reached(one));
        }
        for (Element one : CALLS.keySet()) {
            int deep = depth(one, all);
            House.due("rule 11: calls from " + one + " deeper than " + DEEPEST, Math.max(deep, DEEPEST), DEEPEST);
        }
    }

    /** Methods that call one another count as one. */
    private static int depth(Element from, Map<Element, Set<Element>> all) {
        Integer known = DEPTHS.get(from);
        if (known != null) {
            return known;
        }
        Set<Element> round = new HashSet<>(Set.of(from));
        for (Element one : all.get(from)) {
            if (all.get(one).contains(from)) {
                round.add(one);
            }
        }
        int deepest = 0;
        for (Element one : round) {
            for (Element called : CALLS.get(one)) {
                if (CALLS.containsKey(called) && !round.contains(called)) {
                    deepest = Math.max(deepest, depth(called, all));
                }
            }
        }
        DEPTHS.put(from, deepest + 1);
        return deepest + 1;
    }
}
