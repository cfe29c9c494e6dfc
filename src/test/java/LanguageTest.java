import com.sun.source.tree.AnnotationTree;
import com.sun.source.tree.AssertTree;
import com.sun.source.tree.BinaryTree;
import com.sun.source.tree.CatchTree;
import com.sun.source.tree.ClassTree;
import com.sun.source.tree.CompilationUnitTree;
import com.sun.source.tree.CompoundAssignmentTree;
import com.sun.source.tree.ImportTree;
import com.sun.source.tree.InstanceOfTree;
import com.sun.source.tree.LambdaExpressionTree;
import com.sun.source.tree.LiteralTree;
import com.sun.source.tree.MemberReferenceTree;
import com.sun.source.tree.MethodInvocationTree;
import com.sun.source.tree.MethodTree;
import com.sun.source.tree.NewClassTree;
import com.sun.source.tree.SynchronizedTree;
import com.sun.source.tree.ThrowTree;
import com.sun.source.tree.Tree;
import com.sun.source.tree.TryTree;
import com.sun.source.tree.TypeCastTree;
import com.sun.source.tree.VariableTree;
import com.sun.source.util.JavacTask;
import com.sun.source.util.SourcePositions;
import com.sun.source.util.TreePathScanner;
import com.sun.source.util.Trees;
import java.nio.charset.StandardCharsets;
import java.nio.file.Path;
import java.util.HashSet;
import java.util.LinkedHashMap;
import java.util.List;
import java.util.Map;
import java.util.Set;
import javax.lang.model.element.Element;
import javax.lang.model.element.ElementKind;
import javax.lang.model.element.Modifier;
import javax.tools.JavaCompiler;
import javax.tools.StandardJavaFileManager;
import javax.tools.ToolProvider;

/** The rules of LANGUAGE.md that can be seen in the program's text, by the numbers that they have there. */
public final class LanguageTest extends TreePathScanner<Void, Void> {
    private static final Path FILE = Path.of("src/main/java/MartialHall.java");
    private static final int MOST_LINES = 60, MOST_PARAMETERS = 7, MOST_CLASSES = 12, MOST_FIELDS = 20;
    private static final int MOST_DEEP = 8;
    private static final Set<String> ENUM_FIELDS = Set.of("int", "long", "boolean", "java.lang.String");
    private static final Set<String> STATIC_FIELDS = Set.of("int", "long", "boolean", "char", "java.lang.String", "int[]",
        "long[]", "char[]", "byte[]");
    private static final Set<String> EXCEPTIONS = Set.of("IllegalStateException", "IllegalArgumentException",
        "IndexOutOfBoundsException", "ArithmeticException", "UnsupportedOperationException", "NoSuchElementException",
        "RuntimeException");
    private static final Set<String> LIBRARY = Set.of("java.lang.String", "java.lang.StringBuilder", "java.lang.Integer",
        "java.util.ArrayList", "java.util.List");
    private static final Set<String> IMPORTS = Set.of("java.util.ArrayList", "java.util.List", "java.util.Arrays",
        "java.util.Iterator", "java.util.NoSuchElementException");
    private static final Set<String> CALLS = Set.of("String.length", "String.charAt", "String.isEmpty", "String.equals",
        "String.indexOf", "String.substring", "String.toCharArray", "StringBuilder.append", "StringBuilder.charAt",
        "StringBuilder.setCharAt", "StringBuilder.setLength", "StringBuilder.deleteCharAt", "StringBuilder.reverse",
        "StringBuilder.length", "StringBuilder.toString", "ArrayList.add", "ArrayList.get", "ArrayList.set",
        "ArrayList.remove", "ArrayList.size", "ArrayList.isEmpty", "ArrayList.clear", "List.add", "List.get", "List.set",
        "List.remove", "List.size", "List.isEmpty", "List.clear", "List.of", "Math.max", "Math.min", "Math.abs",
        "Math.floorDiv", "Math.floorMod", "Integer.compare", "Integer.max", "Integer.min", "Integer.bitCount",
        "Long.compare", "Long.max", "Long.min", "Long.bitCount", "System.arraycopy", "Arrays.copyOf",
        "Arrays.copyOfRange", "Arrays.fill");

    private final Trees trees;
    private final CompilationUnitTree unit;
    /** What each method calls of the program's own, and where it stands. */
    private final Map<Element, Set<Element>> calls = new LinkedHashMap<>();
    private final Map<Element, Tree> places = new LinkedHashMap<>();
    private Element method;
    private int classes = 0;
    private int wrong = 0;

    private LanguageTest(Trees trees, CompilationUnitTree unit) {
        this.trees = trees;
        this.unit = unit;
    }

    private void rule(int number, Tree place, boolean isKept, String what) {
        if (!isKept) {
            wrong++;
            SourcePositions positions = trees.getSourcePositions();
            long line = unit.getLineMap().getLineNumber(positions.getStartPosition(unit, place));
            System.out.println("rule " + number + ", line " + line + ": " + what);
        }
    }

    private boolean isOwn(String type) {
        return type.startsWith("MartialHall");
    }

    private String typeOf(Tree tree) {
        return String.valueOf(trees.getTypeMirror(trees.getPath(unit, tree)));
    }

    @Override
    public Void visitImport(ImportTree tree, Void none) {
        rule(4, tree, IMPORTS.contains(tree.getQualifiedIdentifier().toString()) && !tree.isStatic(), "an import");
        return super.visitImport(tree, none);
    }

    @Override
    public Void visitAnnotation(AnnotationTree tree, Void none) {
        rule(4, tree, tree.getAnnotationType().toString().equals("Override"), "an annotation of the library");
        return super.visitAnnotation(tree, none);
    }

    @Override
    public Void visitClass(ClassTree tree, Void none) {
        classes++;
        int fields = 0;
        for (Tree member : tree.getMembers()) {
            rule(5, member, member.getKind() != Tree.Kind.BLOCK, "an initialiser block");
            if (member instanceof VariableTree) {
                VariableTree field = (VariableTree) member;
                Set<Modifier> how = field.getModifiers().getFlags();
                rule(5, field, !how.contains(Modifier.STATIC) || how.contains(Modifier.FINAL), "a static field that is not final");
                fields += how.contains(Modifier.STATIC) ? 0 : 1;
                field(tree, field);
            }
        }
        rule(11, tree, fields <= MOST_FIELDS, "a class of " + fields + " fields");
        rule(11, tree, classes <= MOST_CLASSES, "too many classes");
        rule(6, tree, tree.getExtendsClause() == null || isOwn(typeOf(tree.getExtendsClause())), "a class of the library extended");
        return super.visitClass(tree, none);
    }

    private void field(ClassTree owner, VariableTree field) {
        boolean isStatic = field.getModifiers().getFlags().contains(Modifier.STATIC);
        boolean isOfEnum = owner.getKind() == Tree.Kind.ENUM;
        String type = typeOf(field);
        // An enum's constants are its static fields, and its values() are kept in one.
        boolean isEnums = isOwn(type) && (isOfEnum || type.endsWith("[]"));
        rule(5, field, !isStatic || STATIC_FIELDS.contains(type) || isEnums, "a static field of " + type);
        rule(2, field, isStatic || !isOfEnum || ENUM_FIELDS.contains(type), "an enum's field of " + type);
    }

    /** How many calls stand open at once, at the most, below and with that of a method. */
    private int depth(Element called, Set<Element> open) {
        boolean isNew = open.add(called);
        rule(8, places.get(called), isNew, "a method that calls itself, whose depth has to be looked at");
        int deepest = 0;
        if (isNew) {
            for (Element next : calls.get(called)) {
                deepest = Math.max(deepest, calls.containsKey(next) ? depth(next, open) : 0);
            }
            open.remove(called);
        }
        return deepest + 1;
    }

    private void lookAtCalls() {
        Set<String> face = new HashSet<>();
        for (Element one : calls.keySet()) {
            if (one.getModifiers().contains(Modifier.PUBLIC) && one.getKind() == ElementKind.METHOD) {
                face.add(one.getSimpleName().toString());
            }
        }
        for (Element one : calls.keySet()) {
            boolean isPublic = one.getModifiers().contains(Modifier.PUBLIC);
            rule(1, places.get(one), isPublic || !face.contains(one.getSimpleName().toString()), "a name of the face");
            int deep = depth(one, new HashSet<>());
            rule(11, places.get(one), deep <= MOST_DEEP, "calls that go " + deep + " deep");
        }
    }

    @Override
    public Void visitMethod(MethodTree tree, Void none) {
        method = trees.getElement(getCurrentPath());
        calls.put(method, new HashSet<>());
        places.put(method, tree);
        SourcePositions positions = trees.getSourcePositions();
        long first = unit.getLineMap().getLineNumber(positions.getStartPosition(unit, tree));
        long last = unit.getLineMap().getLineNumber(Math.max(positions.getEndPosition(unit, tree), positions.getStartPosition(unit, tree)));
        rule(11, tree, last - first < MOST_LINES, "a method of " + (last - first + 1) + " lines");
        rule(11, tree, tree.getParameters().size() <= MOST_PARAMETERS, "too many parameters");
        super.visitMethod(tree, none);
        method = null;
        return null;
    }

    @Override
    public Void visitVariable(VariableTree tree, Void none) {
        String type = typeOf(tree).replaceAll("\\[\\]", "");
        boolean isNumber = Set.of("int", "long", "short", "byte", "char", "boolean", "double", "float").contains(type);
        boolean isList = type.startsWith("java.util.") && (type.contains("<MartialHall.") || type.contains("<java.lang.Integer>"));
        boolean isCaught = EXCEPTIONS.contains(type.substring(type.lastIndexOf('.') + 1));
        rule(3, tree, isNumber || isOwn(type) || LIBRARY.contains(type) || isList || isCaught, "a variable of " + type);
        return super.visitVariable(tree, none);
    }

    @Override
    public Void visitMethodInvocation(MethodInvocationTree tree, Void none) {
        Element called = trees.getElement(getCurrentPath());
        String owner = called.getEnclosingElement().toString();
        // A StringBuilder has some of its methods from a class above it.
        String name = called.getEnclosingElement().getSimpleName().toString().replace("Abstract", "") + "." + called.getSimpleName();
        boolean isOfEnum = called.getSimpleName().contentEquals("values") || called.getSimpleName().contentEquals("ordinal");
        boolean isSuper = called.getKind() == ElementKind.CONSTRUCTOR;
        noteCall(called);
        rule(4, tree, isOwn(owner) || CALLS.contains(name) || isOfEnum || isSuper, "a call of " + name);
        return super.visitMethodInvocation(tree, none);
    }

    private void noteCall(Element one) {
        if (method != null) {
            calls.get(method).add(one);
        }
    }

    @Override
    public Void visitNewClass(NewClassTree tree, Void none) {
        noteCall(trees.getElement(getCurrentPath()));
        String type = typeOf(tree.getIdentifier()).replaceAll("<.*>", "");
        boolean isException = EXCEPTIONS.contains(type.substring(type.lastIndexOf('.') + 1));
        rule(4, tree, isOwn(type) || LIBRARY.contains(type) || isException, "a new " + type);
        return super.visitNewClass(tree, none);
    }

    @Override
    public Void visitThrow(ThrowTree tree, Void none) {
        boolean isKept = tree.getExpression() instanceof NewClassTree;
        if (isKept) {
            NewClassTree made = (NewClassTree) tree.getExpression();
            isKept = EXCEPTIONS.contains(made.getIdentifier().toString()) && made.getArguments().size() <= 1
                && made.getArguments().stream().allMatch(text -> text instanceof LiteralTree);
        }
        rule(6, tree, isKept, "a throw of another form");
        for (Tree around : getCurrentPath()) {
            boolean isConstructor = around instanceof MethodTree && ((MethodTree) around).getName().contentEquals("<init>");
            rule(6, tree, !isConstructor, "a throw in a constructor");
            rule(6, tree, !(around instanceof TryTree), "a throw in a try");
        }
        return super.visitThrow(tree, none);
    }

    @Override
    public Void visitCatch(CatchTree tree, Void none) {
        rule(6, tree, EXCEPTIONS.contains(tree.getParameter().getType().toString()), "a catch of another class");
        return super.visitCatch(tree, none);
    }

    @Override
    public Void visitTry(TryTree tree, Void none) {
        rule(6, tree, tree.getFinallyBlock() == null && tree.getResources().isEmpty(), "finally or resources");
        return super.visitTry(tree, none);
    }

    @Override
    public Void visitBinary(BinaryTree tree, Void none) {
        rule(10, tree, !typeOf(tree).equals("java.lang.String"), "texts joined by +");
        boolean isSame = tree.getKind() == Tree.Kind.EQUAL_TO || tree.getKind() == Tree.Kind.NOT_EQUAL_TO;
        String type = typeOf(tree.getLeftOperand());
        rule(6, tree, !isSame || !(type.equals("java.lang.String") || type.equals("java.lang.Integer")), "== of " + type);
        return super.visitBinary(tree, none);
    }

    @Override
    public Void visitCompoundAssignment(CompoundAssignmentTree tree, Void none) {
        rule(10, tree, !typeOf(tree).equals("java.lang.String"), "texts joined by +=");
        return super.visitCompoundAssignment(tree, none);
    }

    @Override
    public Void visitTypeCast(TypeCastTree tree, Void none) {
        String type = typeOf(tree);
        rule(6, tree, isOwn(type) || Character.isLowerCase(type.charAt(0)) && !type.contains("."), "a cast to " + type);
        return super.visitTypeCast(tree, none);
    }

    @Override
    public Void visitInstanceOf(InstanceOfTree tree, Void none) {
        rule(6, tree, isOwn(typeOf(tree.getExpression())), "instanceof of a class of the library");
        return super.visitInstanceOf(tree, none);
    }

    @Override
    public Void visitLambdaExpression(LambdaExpressionTree tree, Void none) {
        rule(2, tree, false, "a lambda");
        return null;
    }

    @Override
    public Void visitMemberReference(MemberReferenceTree tree, Void none) {
        rule(2, tree, false, "a method reference");
        return null;
    }

    @Override
    public Void visitSynchronized(SynchronizedTree tree, Void none) {
        rule(6, tree, false, "synchronized");
        return null;
    }

    @Override
    public Void visitAssert(AssertTree tree, Void none) {
        rule(6, tree, false, "assert");
        return null;
    }

    @Override
    public Void visitLiteral(LiteralTree tree, Void none) {
        boolean isPlain = !(tree.getValue() instanceof String)
            || ((String) tree.getValue()).chars().allMatch(sign -> sign >= 1 && sign <= 127);
        rule(4, tree, isPlain, "a sign of a text that is not 1 to 127");
        return super.visitLiteral(tree, none);
    }

    public static void main(String[] args) throws java.io.IOException {
        JavaCompiler compiler = ToolProvider.getSystemJavaCompiler();
        try (StandardJavaFileManager files = compiler.getStandardFileManager(null, null, StandardCharsets.UTF_8)) {
            JavacTask task = (JavacTask) compiler.getTask(null, files, null, List.of("-proc:none"), null, files.getJavaFileObjects(FILE));
            CompilationUnitTree unit = task.parse().iterator().next();
            task.analyze();
            LanguageTest test = new LanguageTest(Trees.instance(task), unit);
            test.rule(1, unit, unit.getPackageName() == null && unit.getTypeDecls().size() == 1, "a package or more classes");
            test.scan(unit, null);
            test.lookAtCalls();
            System.out.println(test.classes + " classes, " + test.wrong + " wrong");
            System.exit(test.wrong == 0 ? 0 : 1);
        }
    }
}
