import com.sun.source.tree.AssertTree;
import com.sun.source.tree.BinaryTree;
import com.sun.source.tree.CatchTree;
import com.sun.source.tree.ClassTree;
import com.sun.source.tree.CompilationUnitTree;
import com.sun.source.tree.CompoundAssignmentTree;
import com.sun.source.tree.ExpressionTree;
import com.sun.source.tree.ForLoopTree;
import com.sun.source.tree.ImportTree;
import com.sun.source.tree.LambdaExpressionTree;
import com.sun.source.tree.LiteralTree;
import com.sun.source.tree.MemberReferenceTree;
import com.sun.source.tree.MethodInvocationTree;
import com.sun.source.tree.MethodTree;
import com.sun.source.tree.NewClassTree;
import com.sun.source.tree.SynchronizedTree;
import com.sun.source.tree.ThrowTree;
import com.sun.source.tree.Tree;
import com.sun.source.tree.TryTree;
import com.sun.source.tree.VariableTree;
import com.sun.source.tree.WhileLoopTree;
import com.sun.source.util.JavacTask;
import com.sun.source.util.TreePath;
import com.sun.source.util.TreePathScanner;
import com.sun.source.util.Trees;
import java.io.IOException;
import java.net.URI;
import java.util.ArrayList;
import java.util.HashSet;
import java.util.List;
import java.util.Map;
import java.util.Set;
import java.util.TreeMap;
import java.util.TreeSet;
import javax.lang.model.element.Element;
import javax.lang.model.element.ElementKind;
import javax.lang.model.element.Modifier;
import javax.lang.model.element.TypeElement;
import javax.lang.model.type.ArrayType;
import javax.lang.model.type.DeclaredType;
import javax.lang.model.type.TypeKind;
import javax.lang.model.type.TypeMirror;
import javax.tools.JavaFileObject;
import javax.tools.SimpleJavaFileObject;
import javax.tools.ToolProvider;

/** Finds in a source what ../shared/LANGUAGE.md rules out, as far as a source tells it without being run. */
final class Rules extends TreePathScanner<Void, Void> {
    private static final int MOST_PARAMETERS = 7;
    private static final int MOST_LINES = 60;
    private static final int MOST_CLASSES = 12;
    private static final int MOST_FIELDS = 20;
    private static final int MOST_OPEN_CALLS = 8;
    private static final Set<String> LIBRARY_TYPES = Set.of("java.lang.String", "java.lang.StringBuilder",
            "java.lang.Integer", "java.util.ArrayList", "java.util.List", "java.util.Iterator", "java.lang.Iterable",
            "java.lang.Comparable");
    private static final Set<String> LIBRARY_CALLS = Set.of("String.length", "String.charAt", "String.isEmpty",
            "String.equals", "String.indexOf", "String.substring", "String.toCharArray", "StringBuilder.append",
            "StringBuilder.charAt", "StringBuilder.setCharAt", "StringBuilder.setLength", "StringBuilder.deleteCharAt",
            "StringBuilder.reverse", "StringBuilder.length", "StringBuilder.toString", "ArrayList.add", "ArrayList.get",
            "ArrayList.set", "ArrayList.remove", "ArrayList.size", "ArrayList.isEmpty", "ArrayList.clear", "List.add",
            "List.get", "List.set", "List.remove", "List.size", "List.isEmpty", "List.clear", "List.of",
            "Integer.compare", "Integer.bitCount", "Math.max", "Math.min", "Math.abs", "Math.floorDiv", "Math.floorMod",
            "System.arraycopy", "Arrays.copyOf", "Arrays.copyOfRange", "Arrays.fill", "Object.<init>", "Enum.<init>");
    private static final Set<String> EXCEPTIONS = Set.of("IllegalStateException", "IllegalArgumentException",
            "IndexOutOfBoundsException", "ArithmeticException", "UnsupportedOperationException",
            "NoSuchElementException", "RuntimeException");
    private static final Set<TypeKind> NUMBERS = Set.of(TypeKind.INT, TypeKind.LONG, TypeKind.SHORT, TypeKind.BYTE,
            TypeKind.CHAR, TypeKind.DOUBLE, TypeKind.FLOAT);
    private static final Set<Tree.Kind> FLOATING_OPERATORS = Set.of(Tree.Kind.PLUS, Tree.Kind.MINUS,
            Tree.Kind.MULTIPLY, Tree.Kind.DIVIDE, Tree.Kind.LESS_THAN, Tree.Kind.LESS_THAN_EQUAL,
            Tree.Kind.GREATER_THAN, Tree.Kind.GREATER_THAN_EQUAL, Tree.Kind.EQUAL_TO, Tree.Kind.NOT_EQUAL_TO);

    private final Set<String> faults = new TreeSet<>();
    private final Map<String, Set<String>> calls = new TreeMap<>();
    private final Set<String> methodsThatThrow = new HashSet<>();
    private final Set<String> methodsThatTry = new HashSet<>();
    private final Trees trees;
    private final CompilationUnitTree unit;
    private int classes = 0;

    private Rules(Trees trees, CompilationUnitTree unit) {
        this.trees = trees;
        this.unit = unit;
    }

    /** The source must be one that javac takes. */
    static Set<String> faultsOf(String source) throws IOException {
        JavaFileObject file = new SimpleJavaFileObject(URI.create("string:///LanternCourt.java"), JavaFileObject.Kind.SOURCE) {
            @Override
            public CharSequence getCharContent(boolean ignoreErrors) {
                return source;
            }
        };
        JavacTask task = (JavacTask) ToolProvider.getSystemJavaCompiler()
                .getTask(null, null, null, List.of("--release", "17", "-proc:none"), null, List.of(file));
        CompilationUnitTree unit = task.parse().iterator().next();
        task.analyze();
        Rules rules = new Rules(Trees.instance(task), unit);
        rules.scan(unit, null);
        rules.endOfFile();
        return rules.faults;
    }

    private void fault(int rule, String what) {
        faults.add("rule " + rule + ": " + what);
    }

    private long lineOf(Tree tree, boolean last) {
        long start = trees.getSourcePositions().getStartPosition(unit, tree);
        long end = trees.getSourcePositions().getEndPosition(unit, tree);
        return unit.getLineMap().getLineNumber(last ? end : start);
    }

    private String at(Tree tree) {
        return " in line " + lineOf(tree, false);
    }

    private void endOfFile() {
        if (unit.getPackageName() != null || unit.getTypeDecls().size() != 1) {
            fault(1, "a package line, or more than one class beside another");
        }
        if (classes > MOST_CLASSES) {
            fault(11, classes + " classes");
        }
        for (String method : methodsThatThrow) {
            if (methodsThatTry.contains(method)) {
                fault(6, "try and throw in one method: " + method);
            }
        }
        for (String method : calls.keySet()) {
            openCalls(method, new ArrayList<>());
        }
    }

    /** Follows the calls from a method; rule 8 allows guarded recursion, which this class has no need of. */
    private void openCalls(String method, List<String> open) {
        if (open.contains(method)) {
            fault(8, "recursion of " + method);
            return;
        }
        open.add(method);
        if (open.size() > MOST_OPEN_CALLS) {
            fault(11, "calls too deep: " + open);
        } else {
            for (String called : calls.getOrDefault(method, Set.of())) {
                openCalls(called, open);
            }
        }
        open.remove(open.size() - 1);
    }

    /** The method or constructor round the present place, or null in a field's initialiser. */
    private String methodHere() {
        for (TreePath path = getCurrentPath(); path != null; path = path.getParentPath()) {
            if (path.getLeaf() instanceof MethodTree) {
                return nameOf(trees.getElement(path));
            }
        }
        return null;
    }

    private static String nameOf(Element method) {
        return method.getEnclosingElement().getSimpleName() + "." + method;
    }

    private static boolean isOwn(TypeElement type) {
        return type.getQualifiedName().toString().startsWith("LanternCourt");
    }

    private TypeMirror typeOf(Tree tree) {
        return trees.getTypeMirror(new TreePath(getCurrentPath(), tree));
    }

    private boolean isText(Tree tree) {
        return String.valueOf(typeOf(tree)).equals("java.lang.String");
    }

    @Override
    public Void visitImport(ImportTree node, Void nothing) {
        String name = node.getQualifiedIdentifier().toString();
        if (!LIBRARY_TYPES.contains(name) && !name.equals("java.util.Arrays") && !name.equals("java.util.NoSuchElementException")) {
            fault(4, "import of " + name);
        }
        return null;
    }

    @Override
    public Void visitClass(ClassTree node, Void nothing) {
        classes++;
        Element element = trees.getElement(getCurrentPath());
        boolean isInside = element.getEnclosingElement() instanceof TypeElement;
        Set<Modifier> modifiers = element.getModifiers();
        if (isInside && (!modifiers.contains(Modifier.STATIC) || modifiers.contains(Modifier.PUBLIC) || modifiers.contains(Modifier.PROTECTED))) {
            fault(1, "class " + node.getSimpleName() + " is public, protected or not static");
        }
        int fields = 0;
        for (Tree member : node.getMembers()) {
            if (member instanceof VariableTree field && !field.getModifiers().getFlags().contains(Modifier.STATIC)) {
                fields++;
            }
            if (member.getKind() == Tree.Kind.BLOCK) {
                fault(5, "initialiser block" + at(member));
            }
        }
        if (fields > MOST_FIELDS) {
            fault(11, fields + " fields of " + node.getSimpleName());
        }
        return super.visitClass(node, nothing);
    }

    @Override
    public Void visitMethod(MethodTree node, Void nothing) {
        String name = methodHere();
        calls.computeIfAbsent(name, key -> new TreeSet<>());
        if (node.getParameters().size() > MOST_PARAMETERS) {
            fault(11, "parameters of " + name);
        }
        if (node.getBody() != null && lineOf(node, true) - lineOf(node, false) >= MOST_LINES) {
            fault(11, "lines of " + name);
        }
        if (Set.of("equals", "hashCode", "toString").contains(node.getName().toString())) {
            fault(6, "an own " + name);
        }
        if (node.getReturnType() != null && !isAllowed(typeOf(node.getReturnType()))) {
            fault(3, "what " + name + " returns");
        }
        return super.visitMethod(node, nothing);
    }

    @Override
    public Void visitVariable(VariableTree node, Void nothing) {
        Element element = trees.getElement(getCurrentPath());
        boolean isCaught = getCurrentPath().getParentPath().getLeaf() instanceof CatchTree;
        if (!isCaught && !isAllowed(element.asType())) {
            fault(3, "the type of " + node.getName() + at(node));
        }
        if (element.getKind() == ElementKind.FIELD && element.getModifiers().contains(Modifier.STATIC)) {
            checkStaticField(node, element);
        }
        return super.visitVariable(node, nothing);
    }

    private void checkStaticField(VariableTree node, Element element) {
        Tree start = node.getInitializer();
        String type = element.asType().toString();
        boolean isConstant = Set.of("int", "long", "boolean", "char", "java.lang.String").contains(type);
        boolean isTable = Set.of("int[]", "long[]", "char[]", "byte[]").contains(type) && start != null
                && start.toString().contains("{");
        boolean isValues = type.endsWith("[]") && start != null && start.toString().endsWith(".values()");
        if (!element.getModifiers().contains(Modifier.FINAL) || !isConstant && !isTable && !isValues) {
            fault(5, "static field " + node.getName());
        }
    }

    private static boolean isAllowed(TypeMirror type) {
        if (type instanceof ArrayType array) {
            TypeMirror part = array.getComponentType();
            return part.getKind().isPrimitive() || isOwnType(part)
                    || part instanceof ArrayType row && NUMBERS.contains(row.getComponentType().getKind());
        }
        if (type instanceof DeclaredType declared) {
            return isOwnType(type) || LIBRARY_TYPES.contains(((TypeElement) declared.asElement()).getQualifiedName().toString());
        }
        return type.getKind().isPrimitive() || type.getKind() == TypeKind.VOID || type.getKind() == TypeKind.TYPEVAR;
    }

    private static boolean isOwnType(TypeMirror type) {
        return type instanceof DeclaredType declared && isOwn((TypeElement) declared.asElement());
    }

    @Override
    public Void visitMethodInvocation(MethodInvocationTree node, Void nothing) {
        Element called = trees.getElement(new TreePath(getCurrentPath(), node.getMethodSelect()));
        noteCall(called);
        TypeElement owner = (TypeElement) called.getEnclosingElement();
        boolean isCopy = called.getSimpleName().contentEquals("clone");
        if (!isOwn(owner) && !isCopy && !LIBRARY_CALLS.contains(owner.getSimpleName() + "." + called.getSimpleName())) {
            fault(4, "call of " + owner.getSimpleName() + "." + called.getSimpleName() + at(node));
        }
        if (owner.getSimpleName().contentEquals("System") || owner.getSimpleName().contentEquals("Arrays")) {
            checkCopied(node);
        }
        if (owner.getSimpleName().contentEquals("Math")) {
            for (ExpressionTree argument : node.getArguments()) {
                if (isFloating(argument)) {
                    fault(3, "Math on a double or float" + at(node));
                }
            }
        }
        return super.visitMethodInvocation(node, nothing);
    }

    private void noteCall(Element called) {
        String here = methodHere();
        if (here != null && isOwn((TypeElement) called.getEnclosingElement())) {
            calls.computeIfAbsent(here, key -> new TreeSet<>()).add(nameOf(called));
        }
    }

    private void checkCopied(MethodInvocationTree node) {
        for (ExpressionTree argument : node.getArguments()) {
            if (typeOf(argument) instanceof ArrayType array && !NUMBERS.contains(array.getComponentType().getKind())) {
                fault(4, "copy of an array that is not one of numbers" + at(node));
            }
        }
    }

    @Override
    public Void visitNewClass(NewClassTree node, Void nothing) {
        Element made = trees.getElement(getCurrentPath());
        TypeElement type = (TypeElement) made.getEnclosingElement();
        boolean isThrown = getCurrentPath().getParentPath().getLeaf() instanceof ThrowTree;
        if (isOwn(type)) {
            noteCall(made);
        } else if (!isThrown && !LIBRARY_TYPES.contains(type.getQualifiedName().toString())) {
            fault(4, "new " + type + at(node));
        }
        return super.visitNewClass(node, nothing);
    }

    @Override
    public Void visitThrow(ThrowTree node, Void nothing) {
        String method = String.valueOf(methodHere());
        methodsThatThrow.add(method);
        boolean isPlain = node.getExpression() instanceof NewClassTree made
                && EXCEPTIONS.contains(made.getIdentifier().toString()) && made.getArguments().size() <= 1
                && made.getArguments().stream().allMatch(text -> text.getKind() == Tree.Kind.STRING_LITERAL);
        if (!isPlain || method.contains(".LanternCourt(")) {
            fault(6, "throw" + at(node));
        }
        return super.visitThrow(node, nothing);
    }

    @Override
    public Void visitTry(TryTree node, Void nothing) {
        methodsThatTry.add(String.valueOf(methodHere()));
        if (node.getFinallyBlock() != null || !node.getResources().isEmpty()) {
            fault(6, "finally or resources" + at(node));
        }
        for (CatchTree caught : node.getCatches()) {
            if (!EXCEPTIONS.contains(caught.getParameter().getType().toString())) {
                fault(6, "catch" + at(caught));
            }
        }
        return super.visitTry(node, nothing);
    }

    @Override
    public Void visitLambdaExpression(LambdaExpressionTree node, Void nothing) {
        fault(2, "lambda" + at(node));
        return super.visitLambdaExpression(node, nothing);
    }

    @Override
    public Void visitMemberReference(MemberReferenceTree node, Void nothing) {
        fault(2, "method reference" + at(node));
        return super.visitMemberReference(node, nothing);
    }

    @Override
    public Void visitSynchronized(SynchronizedTree node, Void nothing) {
        fault(6, "synchronized" + at(node));
        return super.visitSynchronized(node, nothing);
    }

    @Override
    public Void visitAssert(AssertTree node, Void nothing) {
        fault(6, "assert" + at(node));
        return super.visitAssert(node, nothing);
    }

    @Override
    public Void visitWhileLoop(WhileLoopTree node, Void nothing) {
        if (node.getCondition().toString().equals("(true)")) {
            fault(9, "loop without an end" + at(node));
        }
        return super.visitWhileLoop(node, nothing);
    }

    @Override
    public Void visitForLoop(ForLoopTree node, Void nothing) {
        if (node.getCondition() == null) {
            fault(9, "loop without an end" + at(node));
        }
        return super.visitForLoop(node, nothing);
    }

    @Override
    public Void visitBinary(BinaryTree node, Void nothing) {
        boolean isOfTexts = isText(node.getLeftOperand()) && isText(node.getRightOperand());
        if (node.getKind() == Tree.Kind.PLUS && (isText(node.getLeftOperand()) || isText(node.getRightOperand()))) {
            fault(10, "texts joined by +" + at(node));
        }
        if (isOfTexts && (node.getKind() == Tree.Kind.EQUAL_TO || node.getKind() == Tree.Kind.NOT_EQUAL_TO)) {
            fault(6, "texts compared by their references" + at(node));
        }
        boolean isOfFloating = isFloating(node.getLeftOperand()) || isFloating(node.getRightOperand());
        if (isOfFloating && !FLOATING_OPERATORS.contains(node.getKind())) {
            fault(3, "operator on a double or float" + at(node));
        }
        return super.visitBinary(node, nothing);
    }

    @Override
    public Void visitCompoundAssignment(CompoundAssignmentTree node, Void nothing) {
        if (isText(node.getVariable())) {
            fault(10, "texts joined by +=" + at(node));
        }
        if (typeOf(node.getVariable()).getKind() == TypeKind.BOOLEAN) {
            fault(10, "arithmetic on booleans" + at(node));
        }
        return super.visitCompoundAssignment(node, nothing);
    }

    private boolean isFloating(Tree tree) {
        TypeMirror type = typeOf(tree);
        return type != null && (type.getKind() == TypeKind.DOUBLE || type.getKind() == TypeKind.FLOAT);
    }

    @Override
    public Void visitLiteral(LiteralTree node, Void nothing) {
        if (node.getValue() instanceof String text && !text.chars().allMatch(sign -> sign >= 1 && sign <= 127)) {
            fault(4, "a sign beyond 127" + at(node));
        }
        return null;
    }
}
