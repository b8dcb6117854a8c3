import com.sun.source.tree.AnnotationTree;
import com.sun.source.tree.AssertTree;
import com.sun.source.tree.BinaryTree;
import com.sun.source.tree.ClassTree;
import com.sun.source.tree.CompilationUnitTree;
import com.sun.source.tree.CompoundAssignmentTree;
import com.sun.source.tree.DoWhileLoopTree;
import com.sun.source.tree.ExpressionTree;
import com.sun.source.tree.ForLoopTree;
import com.sun.source.tree.ImportTree;
import com.sun.source.tree.LambdaExpressionTree;
import com.sun.source.tree.LiteralTree;
import com.sun.source.tree.MemberReferenceTree;
import com.sun.source.tree.MethodInvocationTree;
import com.sun.source.tree.MethodTree;
import com.sun.source.tree.NewClassTree;
import com.sun.source.tree.PackageTree;
import com.sun.source.tree.SynchronizedTree;
import com.sun.source.tree.ThrowTree;
import com.sun.source.tree.Tree;
import com.sun.source.tree.TryTree;
import com.sun.source.tree.VariableTree;
import com.sun.source.tree.WhileLoopTree;
import com.sun.source.util.JavacTask;
import com.sun.source.util.TreePathScanner;
import com.sun.source.util.Trees;
import java.io.IOException;
import java.nio.file.Path;
import java.util.ArrayList;
import java.util.HashMap;
import java.util.LinkedHashMap;
import java.util.List;
import java.util.Map;
import java.util.Set;
import java.util.TreeSet;
import java.util.regex.Matcher;
import java.util.regex.Pattern;
import javax.lang.model.element.Element;
import javax.lang.model.element.ExecutableElement;
import javax.lang.model.element.Modifier;
import javax.lang.model.element.TypeElement;
import javax.lang.model.type.ArrayType;
import javax.lang.model.type.TypeKind;
import javax.lang.model.type.TypeMirror;
import javax.tools.StandardJavaFileManager;
import javax.tools.ToolProvider;

/** The class's file as the compiler reads it: what LANGUAGE.md speaks of, gathered for LanguageTest. */
final class Source extends TreePathScanner<Void, Void> {
    /** A method of the file: whom it calls, and how long it is. */
    static final class Body {
        final String name;
        final int parameters;
        final long lines;
        final boolean isPrivate;
        final Set<Body> calls = new java.util.LinkedHashSet<>();
        boolean callsLibrary = false;

        Body(String name, int parameters, long lines, boolean isPrivate) {
            this.name = name;
            this.parameters = parameters;
            this.lines = lines;
            this.isPrivate = isPrivate;
        }
    }

    final Map<Element, Body> bodies = new LinkedHashMap<>();
    final Set<String> library = new TreeSet<>();
    final List<String> forbidden = new ArrayList<>();
    final Map<String, Integer> fields = new HashMap<>();
    private final Trees trees;
    private final CompilationUnitTree unit;
    private Body open = null;
    private Body start = null;

    static Source read(Path file) throws IOException {
        var compiler = ToolProvider.getSystemJavaCompiler();
        try (StandardJavaFileManager files = compiler.getStandardFileManager(null, null, null)) {
            JavacTask task = (JavacTask) compiler.getTask(null, files, null, List.of("-proc:none"), null, files.getJavaFileObjects(file));
            CompilationUnitTree unit = task.parse().iterator().next();
            task.analyze();
            Source source = new Source(Trees.instance(task), unit);
            source.scan(unit, null);
            source.new Linker().scan(unit, null);
            return source;
        }
    }

    private Source(Trees trees, CompilationUnitTree unit) {
        this.trees = trees;
        this.unit = unit;
    }

    private long line(Tree tree, boolean atEnd) {
        var places = trees.getSourcePositions();
        return unit.getLineMap().getLineNumber(atEnd ? places.getEndPosition(unit, tree) : places.getStartPosition(unit, tree));
    }

    private void forbid(String rule, Tree tree) {
        forbidden.add(rule + " (line " + line(tree, false) + ")");
    }

    private TypeMirror typeOf(Tree tree) {
        return trees.getTypeMirror(trees.getPath(unit, tree));
    }

    private boolean isText(Tree tree) {
        TypeMirror type = typeOf(tree);
        return type != null && type.toString().equals("java.lang.String");
    }

    @Override
    public Void visitMethod(MethodTree tree, Void v) {
        Element method = trees.getElement(getCurrentPath());
        String name = method.getEnclosingElement().getSimpleName() + "." + tree.getName();
        bodies.put(method, new Body(name, tree.getParameters().size(), line(tree, true) - line(tree, false) + 1,
            tree.getModifiers().getFlags().contains(Modifier.PRIVATE)));
        return super.visitMethod(tree, v);
    }

    @Override
    public Void visitClass(ClassTree tree, Void v) {
        TypeElement type = (TypeElement) trees.getElement(getCurrentPath());
        boolean outermost = getCurrentPath().getParentPath().getLeaf() instanceof CompilationUnitTree;
        if (!outermost && !(getCurrentPath().getParentPath().getLeaf() instanceof ClassTree)) forbid("2 a local or anonymous class", tree);
        if (!outermost && !type.getModifiers().contains(Modifier.STATIC)) forbid("2 a class inside that isn't static", tree);
        if (outermost && !type.getSimpleName().contentEquals("HalfAsked")) forbid("1 another class", tree);
        fields.merge(type.getSimpleName().toString(), 0, Integer::sum);
        return super.visitClass(tree, v);
    }

    @Override
    public Void visitVariable(VariableTree tree, Void v) {
        Element variable = trees.getElement(getCurrentPath());
        Set<Modifier> flags = variable.getModifiers();
        if (variable.getKind().isField()) {
            if (flags.contains(Modifier.STATIC)) constant(tree, variable);
            else fields.merge(variable.getEnclosingElement().getSimpleName().toString(), 1, Integer::sum);
        }
        array(tree, variable.asType());
        return super.visitVariable(tree, v);
    }

    /** Rule 5: static fields are final and of few types; arrays are written out in their initialiser. */
    private void constant(VariableTree tree, Element field) {
        String type = field.asType().toString();
        boolean simple = Set.of("int", "long", "boolean", "char", "java.lang.String").contains(type);
        boolean row = Set.of("int[]", "long[]", "char[]", "byte[]").contains(type) && tree.getInitializer() != null
            && tree.getInitializer().getKind() == Tree.Kind.NEW_ARRAY && tree.getInitializer().toString().contains("{");
        if (!field.getModifiers().contains(Modifier.FINAL) || !(simple || row)) forbid("5 a static field " + tree.getName(), tree);
    }

    /** Rule 3: arrays of one dimension, or of two of numbers. */
    private void array(Tree tree, TypeMirror type) {
        int dimensions = 0;
        TypeMirror part = type;
        for (; part.getKind() == TypeKind.ARRAY; part = ((ArrayType) part).getComponentType()) dimensions++;
        if (dimensions > 2 || (dimensions == 2 && !part.getKind().isPrimitive())) forbid("3 an array " + type, tree);
    }

    @Override
    public Void visitThrow(ThrowTree tree, Void v) {
        forbid("6 throw", tree);
        return super.visitThrow(tree, v);
    }

    @Override
    public Void visitTry(TryTree tree, Void v) {
        forbid("6 try", tree);
        return super.visitTry(tree, v);
    }

    @Override
    public Void visitSynchronized(SynchronizedTree tree, Void v) {
        forbid("6 synchronized", tree);
        return super.visitSynchronized(tree, v);
    }

    @Override
    public Void visitAssert(AssertTree tree, Void v) {
        forbid("6 assert", tree);
        return super.visitAssert(tree, v);
    }

    @Override
    public Void visitLambdaExpression(LambdaExpressionTree tree, Void v) {
        forbid("2 a lambda", tree);
        return super.visitLambdaExpression(tree, v);
    }

    @Override
    public Void visitMemberReference(MemberReferenceTree tree, Void v) {
        forbid("2 a method reference", tree);
        return super.visitMemberReference(tree, v);
    }

    @Override
    public Void visitAnnotation(AnnotationTree tree, Void v) {
        forbid("4 an annotation", tree);
        return super.visitAnnotation(tree, v);
    }

    @Override
    public Void visitPackage(PackageTree tree, Void v) {
        forbid("a package line", tree);
        return super.visitPackage(tree, v);
    }

    @Override
    public Void visitImport(ImportTree tree, Void v) {
        String name = tree.getQualifiedIdentifier().toString();
        if (!Set.of("java.util.ArrayList", "java.util.List", "java.util.Arrays", "java.util.Iterator").contains(name)) forbid("4 import " + name, tree);
        return super.visitImport(tree, v);
    }

    @Override
    public Void visitBinary(BinaryTree tree, Void v) {
        boolean texts = isText(tree.getLeftOperand()) || isText(tree.getRightOperand());
        if (texts) forbid(tree.getKind() == Tree.Kind.PLUS ? "10 texts joined by +" : "6 texts held against each other", tree);
        return super.visitBinary(tree, v);
    }

    @Override
    public Void visitCompoundAssignment(CompoundAssignmentTree tree, Void v) {
        if (isText(tree.getVariable())) forbid("10 texts joined by +=", tree);
        return super.visitCompoundAssignment(tree, v);
    }

    @Override
    public Void visitLiteral(LiteralTree tree, Void v) {
        if (tree.getValue() instanceof String text) {
            for (char sign : text.toCharArray()) {
                if (sign < 1 || sign > 127) forbid("4 a sign of a text", tree);
            }
        }
        return super.visitLiteral(tree, v);
    }

    @Override
    public Void visitForLoop(ForLoopTree tree, Void v) {
        StringBuilder steps = new StringBuilder();
        tree.getUpdate().forEach(step -> steps.append(step).append(' '));
        loopEnds(tree, tree.getCondition(), steps.toString());
        return super.visitForLoop(tree, v);
    }

    @Override
    public Void visitWhileLoop(WhileLoopTree tree, Void v) {
        loopEnds(tree, tree.getCondition(), tree.getStatement().toString());
        return super.visitWhileLoop(tree, v);
    }

    @Override
    public Void visitDoWhileLoop(DoWhileLoopTree tree, Void v) {
        loopEnds(tree, tree.getCondition(), tree.getStatement().toString());
        return super.visitDoWhileLoop(tree, v);
    }

    /** Rule 9, as far as it can be seen: a counter that goes by one is held against a bound on the side it goes to. */
    private void loopEnds(Tree loop, ExpressionTree condition, String steps) {
        boolean ends = false;
        Matcher counter = Pattern.compile("(\\w+)(\\+\\+|--)").matcher(steps);
        while (condition != null && counter.find()) {
            String bound = "\\b" + counter.group(1) + (counter.group(2).equals("++") ? " <=? " : " >=? ");
            ends |= Pattern.compile(bound).matcher(condition.toString()).find() && !condition.toString().contains("||");
        }
        if (!ends) forbid("9 a loop whose end can't be seen", loop);
    }

    /** Who calls whom: read behind all methods, as one may call another that stands below it. */
    private final class Linker extends TreePathScanner<Void, Void> {
        @Override
        public Void visitClass(ClassTree tree, Void v) {
            Body before = start;
            Element type = trees.getElement(getCurrentPath());
            start = type.getEnclosedElements().stream().filter(e -> e.getSimpleName().contentEquals("<init>"))
                .map(bodies::get).filter(java.util.Objects::nonNull).findFirst().orElse(null);
            Body opened = open;
            open = start;
            super.visitClass(tree, v);
            open = opened;
            start = before;
            return null;
        }

        @Override
        public Void visitMethod(MethodTree tree, Void v) {
            Body before = open;
            open = bodies.get(trees.getElement(getCurrentPath()));
            super.visitMethod(tree, v);
            open = before;
            return null;
        }

        @Override
        public Void visitMethodInvocation(MethodInvocationTree tree, Void v) {
            called(trees.getElement(getCurrentPath()), tree);
            return super.visitMethodInvocation(tree, v);
        }

        @Override
        public Void visitNewClass(NewClassTree tree, Void v) {
            called(trees.getElement(getCurrentPath()), tree);
            return super.visitNewClass(tree, v);
        }

        private void called(Element what, Tree tree) {
            if (!(what instanceof ExecutableElement method)) {
                forbid("a call that can't be read: " + tree, tree);
                return;
            }
            Body body = bodies.get(method);
            boolean own = body != null;
            if (own && open != null) open.calls.add(body);
            if (own) return;
            if (open != null) open.callsLibrary = true;
            StringBuilder types = new StringBuilder();
            method.getParameters().forEach(p -> types.append(types.length() > 0 ? "," : "").append(p.asType()));
            if (!method.getEnclosingElement().toString().equals("java.lang.Object")) {
                library.add(method.getEnclosingElement().getSimpleName() + "." + method.getSimpleName() + "(" + types + ")");
            }
        }
    }
}
