import com.sun.source.tree.*;
import com.sun.source.util.*;
import java.nio.file.Path;
import java.util.*;
import javax.lang.model.element.*;
import javax.lang.model.type.*;
import javax.tools.*;

/**
 * What ../shared/LANGUAGE.md asks of the program's text, rule by rule, as far as its tree tells it:
 * the compiler's own tree of src/main/java/PlainGeometry.java, read from the project's folder.
 */
final class LanguageTest {
    private static final int DEEPEST = 8;
    private static final int LONGEST = 60;

    private static final Set<String> LIBRARY = Set.of("String.length", "String.charAt", "String.isEmpty",
            "String.equals", "String.indexOf", "String.substring", "String.toCharArray", "System.arraycopy",
            "Arrays.copyOf", "Arrays.copyOfRange", "Arrays.fill", "Math.abs", "Math.min", "Math.max",
            "Math.floorDiv", "Math.floorMod", "Integer.compare", "Long.compare", "Integer.bitCount", "Long.bitCount",
            "Object.<init>", "ArithmeticException.<init>");
    private static final Set<String> TYPES = Set.of("int", "long", "short", "byte", "char", "boolean",
            "double", "float", "void", "java.lang.String", "java.lang.StringBuilder");
    private static final Set<Tree.Kind> LEFT_OUT = EnumSet.of(Tree.Kind.LAMBDA_EXPRESSION,
            Tree.Kind.MEMBER_REFERENCE, Tree.Kind.TRY, Tree.Kind.CATCH, Tree.Kind.SYNCHRONIZED, Tree.Kind.ASSERT,
            Tree.Kind.TYPE_CAST, Tree.Kind.INSTANCE_OF, Tree.Kind.IMPORT, Tree.Kind.PACKAGE);

    private final Trees trees;
    private final CompilationUnitTree unit;
    private final Map<String, Set<String>> calls = new TreeMap<>();
    private final Map<String, Integer> deepest = new HashMap<>();
    private final Set<String> recursive = new TreeSet<>();
    private int classes = 0;
    private int methods = 0;

    private LanguageTest(Trees trees, CompilationUnitTree unit) {
        this.trees = trees;
        this.unit = unit;
    }

    public static void main(String[] args) throws Exception {
        JavaCompiler compiler = ToolProvider.getSystemJavaCompiler();
        StandardJavaFileManager files = compiler.getStandardFileManager(null, null, null);
        JavacTask task = (JavacTask) compiler.getTask(null, files, null, List.of("-proc:none"), null,
                files.getJavaFileObjects(Path.of("src/main/java/PlainGeometry.java")));
        List<CompilationUnitTree> units = new ArrayList<>();
        for (CompilationUnitTree unit : task.parse()) {
            units.add(unit);
        }
        task.analyze();
        Due.is("one file", units.size(), 1);
        LanguageTest test = new LanguageTest(Trees.instance(task), units.get(0));
        test.look();
        Due.end();
    }

    private void look() {
        Due.by("one file, without a package line, one class");
        Due.is("no package", unit.getPackageName() == null);
        Due.is("no import", unit.getImports().isEmpty());
        Due.is("one class", unit.getTypeDecls().size(), 1);
        Due.by("each class, field, method and call by the rules 2 to 6 and 10 to 12");
        new Looker().scan(unit, null);
        Due.by("rule 11: some twelve classes");
        Due.is("classes " + classes, classes >= 2 && classes <= 12);
        Due.is("methods " + methods, methods > 200);
        Due.by("rule 8: recursion carries its depth");
        for (String method : calls.keySet()) {
            deepestFrom(method, new ArrayList<>());
        }
        Due.is("recursive are " + recursive, recursive.equals(Set.of("Cells.grow")));
        Due.by("rule 11: calls that are no recursion go at most eight deep");
        int asked = 0;
        for (String method : calls.keySet()) {
            if (method.startsWith("PlainGeometry.")) {
                asked++;
                Due.is(method + " goes " + deepest.get(method) + " deep: " + way(method), deepest.get(method) <= DEEPEST);
            }
        }
        Due.is("each call of the face: " + asked, asked > 24);
    }

    /** How many methods, constructors among them, stand open at once at most from here on. */
    private int deepestFrom(String method, List<String> open) {
        if (open.contains(method)) {
            recursive.add(method);
            return 0;
        }
        Integer known = deepest.get(method);
        if (known != null) {
            return known;
        }
        open.add(method);
        int most = 0;
        for (String called : calls.getOrDefault(method, Set.of())) {
            most = Math.max(most, deepestFrom(called, open));
        }
        open.remove(open.size() - 1);
        deepest.put(method, most + 1);
        return most + 1;
    }

    private String way(String method) {
        StringBuilder told = new StringBuilder(method);
        String here = method;
        while (here != null && deepest.get(here) > 1) {
            String next = null;
            for (String called : calls.get(here)) {
                if (next == null && !called.equals(here) && deepest.get(called) == deepest.get(here) - 1) {
                    next = called;
                }
            }
            told.append(", ").append(next);
            here = next;
        }
        return told.toString();
    }

    private boolean isOwn(Element e) {
        Element top = e;
        while (top.getEnclosingElement() != null && top.getEnclosingElement().getKind() != ElementKind.PACKAGE) {
            top = top.getEnclosingElement();
        }
        return top.getSimpleName().contentEquals("PlainGeometry");
    }

    private static String tell(Element e) {
        return e.getEnclosingElement().getSimpleName() + "." + e.getSimpleName();
    }

    /** Rule 3: numbers, texts, own classes, rows of them, rows of rows of numbers. */
    private boolean isAllowed(TypeMirror type) {
        int dimensions = 0;
        TypeMirror inner = type;
        while (inner.getKind() == TypeKind.ARRAY) {
            inner = ((ArrayType) inner).getComponentType();
            dimensions++;
        }
        boolean own = inner.getKind() == TypeKind.DECLARED && isOwn(((DeclaredType) inner).asElement());
        boolean known = own || TYPES.contains(inner.toString());
        return known && (dimensions < 2 || dimensions == 2 && inner.getKind().isPrimitive());
    }

    private final class Looker extends TreePathScanner<Void, Void> {
        private String method = null;

        @Override
        public Void scan(Tree tree, Void none) {
            if (tree != null) {
                Due.is("rules 2, 6 and 7: " + tree.getKind() + " at " + lineOf(tree, false), mayStand(tree));
            }
            return super.scan(tree, none);
        }

        private boolean mayStand(Tree tree) {
            if (tree instanceof TypeCastTree) {
                return ((TypeCastTree) tree).getType() instanceof PrimitiveTypeTree;
            }
            return !LEFT_OUT.contains(tree.getKind());
        }

        private long lineOf(Tree tree, boolean end) {
            SourcePositions at = trees.getSourcePositions();
            long place = end ? at.getEndPosition(unit, tree) : at.getStartPosition(unit, tree);
            return place < 0 ? 0 : unit.getLineMap().getLineNumber(place);
        }

        @Override
        public Void visitClass(ClassTree tree, Void none) {
            Element e = trees.getElement(getCurrentPath());
            classes++;
            Set<Modifier> has = e.getModifiers();
            boolean isTop = e.getEnclosingElement().getKind() == ElementKind.PACKAGE;
            Due.is("rule 2: " + e + " stands right inside", isTop || tell(e).startsWith("PlainGeometry."));
            Due.is("rule 2: " + e + " is static, seen from here alone", isTop
                    || has.contains(Modifier.STATIC) && !has.contains(Modifier.PUBLIC) && !has.contains(Modifier.PROTECTED));
            int fields = 0;
            for (Element member : e.getEnclosedElements()) {
                fields += member.getKind() == ElementKind.FIELD && !member.getModifiers().contains(Modifier.STATIC) ? 1 : 0;
                Due.is("rule 6: " + member, !List.of("equals", "hashCode", "toString").contains(member.getSimpleName().toString()));
            }
            Due.is("rule 11: fields of " + e + ": " + fields, fields <= 20);
            return super.visitClass(tree, none);
        }

        @Override
        public Void visitMethod(MethodTree tree, Void none) {
            ExecutableElement e = (ExecutableElement) trees.getElement(getCurrentPath());
            methods++;
            method = tell(e);
            Due.is("one " + method, !calls.containsKey(method));
            calls.put(method, new TreeSet<>());
            Due.is("rule 11: what " + method + " takes", tree.getParameters().size() <= 7);
            long lines = lineOf(tree, true) - lineOf(tree, false) + 1;
            Due.is("rule 11: " + method + " has " + lines + " lines", lines <= LONGEST);
            Due.is("rule 3: " + method + " gives " + e.getReturnType(), isAllowed(e.getReturnType()) || method.endsWith("<init>"));
            Due.is("rule 6: what " + method + " throws", tree.getThrows().isEmpty() || method.equals("PlainGeometry.fraction"));
            super.visitMethod(tree, none);
            method = null;
            return null;
        }

        @Override
        public Void visitVariable(VariableTree tree, Void none) {
            Element e = trees.getElement(getCurrentPath());
            Due.is("rule 3: " + e + " at " + lineOf(tree, false), isAllowed(e.asType()));
            if (e.getModifiers().contains(Modifier.STATIC)) {
                Due.is("rule 5: " + e + " is a constant", ((VariableElement) e).getConstantValue() != null);
            }
            return super.visitVariable(tree, none);
        }

        @Override
        public Void visitThrow(ThrowTree tree, Void none) {
            Due.is("rule 6: the throw in " + method, "PlainGeometry.fraction".equals(method));
            return super.visitThrow(tree, none);
        }

        @Override
        public Void visitBinary(BinaryTree tree, Void none) {
            if (tree.getKind() == Tree.Kind.PLUS) {
                TypeMirror type = trees.getTypeMirror(getCurrentPath());
                Due.is("rule 10: no text is joined at " + lineOf(tree, false), type.getKind().isPrimitive());
            }
            return super.visitBinary(tree, none);
        }

        @Override
        public Void visitMethodInvocation(MethodInvocationTree tree, Void none) {
            call(trees.getElement(getCurrentPath()));
            return super.visitMethodInvocation(tree, none);
        }

        @Override
        public Void visitNewClass(NewClassTree tree, Void none) {
            Due.is("rule 2: no class without a name", tree.getClassBody() == null);
            call(trees.getElement(getCurrentPath()));
            return super.visitNewClass(tree, none);
        }

        private void call(Element called) {
            if (!isOwn(called)) {
                Due.is("rule 4: " + tell(called) + " in " + method, LIBRARY.contains(tell(called)));
            } else if (method != null) {
                calls.get(method).add(tell(called));
            }
        }
    }
}
