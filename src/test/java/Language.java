import com.sun.source.tree.*;
import com.sun.source.util.JavacTask;
import com.sun.source.util.TreePath;
import com.sun.source.util.TreePathScanner;
import com.sun.source.util.Trees;
import java.io.IOException;
import java.net.URI;
import java.util.ArrayList;
import java.util.List;
import java.util.Map;
import java.util.Set;
import javax.lang.model.element.Element;
import javax.lang.model.element.ElementKind;
import javax.lang.model.element.Modifier;
import javax.lang.model.type.ArrayType;
import javax.lang.model.type.TypeKind;
import javax.lang.model.type.TypeMirror;
import javax.tools.JavaFileObject;
import javax.tools.SimpleJavaFileObject;
import javax.tools.ToolProvider;

/**
 * Reads a source with the JDK's own compiler and tells what in it is outside LANGUAGE.md, each with the number of
 * the rule; only of what a look at the words can tell.
 */
final class Language extends TreePathScanner<Void, Void> {
    private static final int MOST_PARAMETERS = 7;
    private static final int MOST_LINES = 60;
    private static final int MOST_CLASSES = 12;
    private static final int MOST_FIELDS = 20;
    private static final Set<String> IMPORTS = Set.of("java.util.ArrayList", "java.util.List", "java.util.Arrays", "java.util.Iterator",
            "java.util.NoSuchElementException");
    private static final Set<String> EXCEPTIONS = Set.of("java.lang.IllegalStateException", "java.lang.IllegalArgumentException",
            "java.lang.IndexOutOfBoundsException", "java.lang.ArithmeticException", "java.lang.UnsupportedOperationException",
            "java.util.NoSuchElementException", "java.lang.RuntimeException");
    private static final Set<String> TYPES = Set.of("java.lang.String", "java.lang.StringBuilder", "java.lang.Integer", "java.util.ArrayList",
            "java.util.List", "java.util.Iterator", "java.lang.Iterable", "java.lang.Comparable");
    private static final Set<String> NEW_TYPES = Set.of("java.lang.String", "java.lang.StringBuilder", "java.util.ArrayList");
    private static final Set<String> OWN_NAMES_NOT = Set.of("equals", "hashCode", "toString");
    private static final Set<String> LISTS = Set.of("add", "get", "set", "remove", "size", "isEmpty", "clear", "of", "iterator");
    private static final Map<String, Set<String>> LIBRARY = Map.of(
            "java.lang.String", Set.of("length", "charAt", "isEmpty", "equals", "indexOf", "substring", "toCharArray"),
            "java.lang.StringBuilder", Set.of("append", "charAt", "setCharAt", "setLength", "deleteCharAt", "reverse", "length", "toString"),
            "java.lang.AbstractStringBuilder", Set.of("charAt", "setLength", "length"),
            "java.util.ArrayList", LISTS, "java.util.List", LISTS,
            "java.lang.System", Set.of("arraycopy"), "java.util.Arrays", Set.of("copyOf", "copyOfRange", "fill"));
    private static final Set<String> NUMBER_FUNCTIONS = Set.of("java.lang.Integer", "java.lang.Long", "java.lang.Math");

    private final Trees trees;
    private final CompilationUnitTree unit;
    private final List<String> complaints = new ArrayList<>();
    private int classes;

    private Language(Trees itsTrees, CompilationUnitTree itsUnit) {
        trees = itsTrees;
        unit = itsUnit;
    }

    /** What is wrong, each line beginning with "rule N, line L: "; a source that does not compile is wrong, too. */
    static List<String> complaints(String source) throws IOException {
        JavaFileObject file = new SimpleJavaFileObject(URI.create("string:///RepairStudio.java"), JavaFileObject.Kind.SOURCE) {
            @Override
            public CharSequence getCharContent(boolean ignored) {
                return source;
            }
        };
        List<String> wrong = new ArrayList<>();
        JavacTask task = (JavacTask) ToolProvider.getSystemJavaCompiler().getTask(null, null, d -> {
            if (d.getKind() == javax.tools.Diagnostic.Kind.ERROR) wrong.add("does not compile, line " + d.getLineNumber() + ": " + d.getMessage(null));
        }, List.of("-proc:none"), null, List.of(file));
        Iterable<? extends CompilationUnitTree> units = task.parse();
        task.analyze();
        for (CompilationUnitTree read : units) {
            Language language = new Language(Trees.instance(task), read);
            language.scan(new TreePath(read), null);
            wrong.addAll(language.complaints);
        }
        return wrong;
    }

    private void wrong(int rule, Tree where, String what) {
        long line = unit.getLineMap().getLineNumber(trees.getSourcePositions().getStartPosition(unit, where));
        complaints.add("rule " + rule + ", line " + line + ": " + what);
    }

    private void needs(boolean good, int rule, Tree where, String what) {
        if (!good) wrong(rule, where, what);
    }

    // ---- names and types ----

    private Element elementHere() {
        return trees.getElement(getCurrentPath());
    }

    private TypeMirror typeOf(Tree tree) {
        return trees.getTypeMirror(TreePath.getPath(unit, tree));
    }

    private static Element classOf(Element member) {
        Element owner = member;
        while (owner != null && !owner.getKind().isClass() && !owner.getKind().isInterface()) owner = owner.getEnclosingElement();
        return owner;
    }

    private static boolean isOwn(String name) {
        return name.equals("RepairStudio") || name.startsWith("RepairStudio.");
    }

    /** The name without the types in angle brackets. */
    private static String plain(TypeMirror type) {
        return type.toString().replaceAll("<.*>", "");
    }

    private static boolean allowed(TypeMirror type) {
        TypeMirror element = type;
        int dimensions = 0;
        while (element instanceof ArrayType) {
            element = ((ArrayType) element).getComponentType();
            dimensions++;
        }
        if (element.getKind().isPrimitive()) return dimensions <= 2;
        String name = plain(element);
        boolean known = isOwn(name) || TYPES.contains(name) || EXCEPTIONS.contains(name) || element.getKind() == TypeKind.TYPEVAR
                || element.getKind() == TypeKind.VOID;
        return known && (dimensions == 0 || dimensions == 1 && (isOwn(name) || name.equals("java.lang.String")));
    }

    private boolean isText(Tree tree) {
        TypeMirror type = typeOf(tree);
        return type != null && type.toString().equals("java.lang.String");
    }

    private boolean isBroken(Tree tree) {
        TypeMirror type = typeOf(tree);
        return type != null && (type.getKind() == TypeKind.DOUBLE || type.getKind() == TypeKind.FLOAT);
    }

    private MethodTree methodHere() {
        for (Tree tree : getCurrentPath()) {
            if (tree instanceof MethodTree) return (MethodTree) tree;
        }
        return null;
    }

    // ---- the file and its classes ----

    @Override
    public Void visitCompilationUnit(CompilationUnitTree tree, Void none) {
        needs(tree.getPackageName() == null, 1, tree, "a package");
        needs(tree.getTypeDecls().size() == 1, 1, tree, "more than one class outside");
        return super.visitCompilationUnit(tree, none);
    }

    @Override
    public Void visitImport(ImportTree tree, Void none) {
        needs(!tree.isStatic() && IMPORTS.contains(tree.getQualifiedIdentifier().toString()), 4, tree, "import " + tree.getQualifiedIdentifier());
        return null;
    }

    @Override
    public Void visitClass(ClassTree tree, Void none) {
        Tree outside = getCurrentPath().getParentPath().getLeaf();
        Set<Modifier> is = tree.getModifiers().getFlags();
        boolean plainClass = tree.getKind() == Tree.Kind.CLASS;
        if (outside instanceof CompilationUnitTree) {
            needs(is.contains(Modifier.PUBLIC) && is.contains(Modifier.FINAL), 1, tree, "the class is public and final");
        } else if (outside instanceof ClassTree) {
            needs(!is.contains(Modifier.PUBLIC) && !is.contains(Modifier.PROTECTED), 1, tree, "a class inside is seen outside");
            needs(!plainClass || is.contains(Modifier.STATIC), 1, tree, "a class inside is not static");
        } else {
            needs(tree.getSimpleName().length() == 0, 2, tree, "a local class");
        }
        classes++;
        needs(classes <= MOST_CLASSES, 11, tree, "too many classes");
        int fields = 0;
        for (Tree member : tree.getMembers()) {
            needs(!(member instanceof BlockTree), 5, member, "an initialiser block");
            if (member instanceof VariableTree && !((VariableTree) member).getModifiers().getFlags().contains(Modifier.STATIC)) fields++;
        }
        needs(fields <= MOST_FIELDS || tree.getKind() == Tree.Kind.ENUM, 11, tree, fields + " fields");
        return super.visitClass(tree, none);
    }

    @Override
    public Void visitMethod(MethodTree tree, Void none) {
        String name = tree.getName().toString();
        needs(tree.getParameters().size() <= MOST_PARAMETERS, 11, tree, name + " takes too many parameters");
        needs(!OWN_NAMES_NOT.contains(name), 6, tree, name + " of one's own");
        if (tree.getReturnType() != null) needs(allowed(typeOf(tree.getReturnType())), 3, tree, name + " returns a " + tree.getReturnType());
        long start = unit.getLineMap().getLineNumber(Math.max(0, trees.getSourcePositions().getStartPosition(unit, tree)));
        long end = unit.getLineMap().getLineNumber(Math.max(0, trees.getSourcePositions().getEndPosition(unit, tree)));
        needs(end - start < MOST_LINES, 11, tree, name + " is too long");
        return super.visitMethod(tree, none);
    }

    @Override
    public Void visitVariable(VariableTree tree, Void none) {
        TypeMirror type = trees.getTypeMirror(getCurrentPath());
        needs(type != null && allowed(type), 3, tree, tree.getName() + " is a " + type);
        Element element = elementHere();
        if (element != null && element.getKind() == ElementKind.FIELD && element.getModifiers().contains(Modifier.STATIC)) {
            needs(element.getModifiers().contains(Modifier.FINAL), 5, tree, tree.getName() + " is static and not final");
            needs(isConstant(tree, type), 5, tree, tree.getName() + " is static and no constant");
        }
        return super.visitVariable(tree, none);
    }

    private static boolean isConstant(VariableTree tree, TypeMirror type) {
        String name = String.valueOf(type);
        ExpressionTree value = tree.getInitializer();
        if (Set.of("int", "long", "boolean", "char", "java.lang.String").contains(name)) return value != null;
        if (value instanceof MethodInvocationTree) return value.toString().endsWith("values()");
        return Set.of("int[]", "long[]", "char[]", "byte[]").contains(name) && value instanceof NewArrayTree
                && ((NewArrayTree) value).getInitializers() != null;
    }

    // ---- what may not be written ----

    @Override
    public Void visitLambdaExpression(LambdaExpressionTree tree, Void none) {
        wrong(2, tree, "a lambda");
        return super.visitLambdaExpression(tree, none);
    }

    @Override
    public Void visitMemberReference(MemberReferenceTree tree, Void none) {
        wrong(2, tree, "a method reference");
        return super.visitMemberReference(tree, none);
    }

    @Override
    public Void visitSynchronized(SynchronizedTree tree, Void none) {
        wrong(6, tree, "synchronized");
        return super.visitSynchronized(tree, none);
    }

    @Override
    public Void visitAssert(AssertTree tree, Void none) {
        wrong(6, tree, "assert");
        return super.visitAssert(tree, none);
    }

    @Override
    public Void visitTry(TryTree tree, Void none) {
        needs(tree.getFinallyBlock() == null && tree.getResources().isEmpty(), 6, tree, "finally, or resources");
        MethodTree method = methodHere();
        needs(method == null || !method.getBody().toString().matches("(?s).*\\bthrow\\b.*"), 6, tree, "try in the method that holds the throw");
        return super.visitTry(tree, none);
    }

    @Override
    public Void visitCatch(CatchTree tree, Void none) {
        needs(EXCEPTIONS.contains(String.valueOf(typeOf(tree.getParameter().getType()))), 6, tree, "catches a " + tree.getParameter().getType());
        return super.visitCatch(tree, none);
    }

    @Override
    public Void visitThrow(ThrowTree tree, Void none) {
        ExpressionTree thrown = tree.getExpression();
        boolean good = thrown instanceof NewClassTree && EXCEPTIONS.contains(String.valueOf(typeOf(thrown)));
        if (good) {
            List<? extends ExpressionTree> given = ((NewClassTree) thrown).getArguments();
            good = given.isEmpty() || given.size() == 1 && given.get(0).getKind() == Tree.Kind.STRING_LITERAL;
        }
        needs(good, 6, tree, "throws " + thrown);
        MethodTree method = methodHere();
        needs(method != null && method.getReturnType() != null, 6, tree, "a throw in a constructor");
        return super.visitThrow(tree, none);
    }

    // ---- the library ----

    @Override
    public Void visitMethodInvocation(MethodInvocationTree tree, Void none) {
        Element called = elementHere();
        String owner = called == null ? "?" : plain(classOf(called).asType());
        String name = called == null ? "?" : called.getSimpleName().toString();
        boolean functions = NUMBER_FUNCTIONS.contains(owner) && called.getModifiers().contains(Modifier.STATIC) && !name.endsWith("Exact")
                && !isBroken(tree) && tree.getArguments().stream().noneMatch(this::isBroken) && !isText(tree)
                && tree.getArguments().stream().noneMatch(this::isText);
        boolean copy = name.equals("clone") && tree.getMethodSelect() instanceof MemberSelectTree
                && typeOf(((MemberSelectTree) tree.getMethodSelect()).getExpression()) instanceof ArrayType;
        needs(isOwn(owner) || name.equals("<init>") || functions || copy || LIBRARY.getOrDefault(owner, Set.of()).contains(name), 4, tree,
                owner + "." + name);
        return super.visitMethodInvocation(tree, none);
    }

    @Override
    public Void visitNewClass(NewClassTree tree, Void none) {
        String name = plain(typeOf(tree));
        boolean thrown = getCurrentPath().getParentPath().getLeaf() instanceof ThrowTree;
        needs(thrown || tree.getClassBody() != null || isOwn(name) || NEW_TYPES.contains(name), 4, tree, "new " + name);
        return super.visitNewClass(tree, none);
    }

    @Override
    public Void visitMemberSelect(MemberSelectTree tree, Void none) {
        Element element = elementHere();
        boolean field = element != null && element.getKind() == ElementKind.FIELD && !tree.getIdentifier().contentEquals("length");
        needs(!field || isOwn(plain(classOf(element).asType())), 4, tree, "a library's field " + tree);
        return super.visitMemberSelect(tree, none);
    }

    // ---- numbers and texts ----

    @Override
    public Void visitBinary(BinaryTree tree, Void none) {
        Tree.Kind kind = tree.getKind();
        boolean text = isText(tree.getLeftOperand()) || isText(tree.getRightOperand());
        needs(kind != Tree.Kind.PLUS || !text, 10, tree, "texts joined by +");
        needs(kind != Tree.Kind.REMAINDER || !isBroken(tree), 3, tree, "% of doubles");
        boolean both = isText(tree.getLeftOperand()) && isText(tree.getRightOperand());
        needs(!both || kind != Tree.Kind.EQUAL_TO && kind != Tree.Kind.NOT_EQUAL_TO, 6, tree, "texts compared by " + kind);
        return super.visitBinary(tree, none);
    }

    @Override
    public Void visitCompoundAssignment(CompoundAssignmentTree tree, Void none) {
        needs(!isText(tree.getVariable()), 10, tree, "texts joined by +=");
        return super.visitCompoundAssignment(tree, none);
    }

    @Override
    public Void visitLiteral(LiteralTree tree, Void none) {
        if (tree.getValue() instanceof String) {
            needs(((String) tree.getValue()).chars().allMatch(c -> c >= 1 && c <= 127), 4, tree, "a sign that is not 1 to 127");
        }
        return null;
    }
}
