import com.sun.source.tree.ClassTree;
import com.sun.source.tree.CompilationUnitTree;
import com.sun.source.tree.MethodInvocationTree;
import com.sun.source.tree.MethodTree;
import com.sun.source.tree.NewArrayTree;
import com.sun.source.tree.NewClassTree;
import com.sun.source.tree.VariableTree;
import com.sun.source.util.JavacTask;
import com.sun.source.util.TreePath;
import com.sun.source.util.TreePathScanner;
import com.sun.source.util.Trees;
import java.io.IOException;
import java.util.HashSet;
import java.util.LinkedHashMap;
import java.util.LinkedHashSet;
import java.util.List;
import java.util.Map;
import java.util.Set;
import javax.lang.model.element.Element;
import javax.lang.model.element.ElementKind;
import javax.lang.model.element.Modifier;
import javax.lang.model.type.ArrayType;
import javax.lang.model.type.TypeKind;
import javax.lang.model.type.TypeMirror;
import javax.tools.JavaCompiler;
import javax.tools.StandardJavaFileManager;
import javax.tools.ToolProvider;

/** What of LANGUAGE.md can be seen in the compiler's tree of the program: rules 1 to 5, 8, 11 and 12. */
public final class FormTest {
    private static final Due D = new Due();
    private static final int MOST_PARAMETERS = 7;
    private static final int MOST_LINES = 60;
    private static final int MOST_CLASSES = 12;
    private static final int MOST_FIELDS = 20;
    private static final int DEEPEST = 8;
    private static final Set<String> LIBRARY = Set.of("java.lang.String.charAt", "java.lang.Math.max", "java.lang.Math.min",
        "java.lang.System.arraycopy", "java.util.Arrays.fill");
    private static final Set<TypeKind> NUMBERS = Set.of(TypeKind.INT, TypeKind.LONG, TypeKind.SHORT, TypeKind.BYTE,
        TypeKind.CHAR, TypeKind.BOOLEAN);

    /** Goes through the tree once, and looks at each class, method, field and call in it. */
    private static final class Look extends TreePathScanner<Void, Void> {
        private final Trees trees;
        private final CompilationUnitTree unit;
        private final Set<Element> classes = new LinkedHashSet<>();
        private final Map<Element, Set<Element>> calls = new LinkedHashMap<>();
        private final Set<String> publicNames = new HashSet<>();
        private final Set<String> privateNames = new HashSet<>();
        private Element method;

        private Look(Trees trees, CompilationUnitTree unit) {
            this.trees = trees;
            this.unit = unit;
        }

        private Element element() {
            return trees.getElement(getCurrentPath());
        }

        @Override
        public Void visitClass(ClassTree tree, Void none) {
            Element element = element();
            classes.add(element);
            Set<Modifier> modifiers = element.getModifiers();
            boolean outer = element.getEnclosingElement().getKind() == ElementKind.PACKAGE;
            D.holds("class " + tree.getSimpleName() + " is static and not public, or the outer one",
                outer || modifiers.contains(Modifier.STATIC) && !modifiers.contains(Modifier.PUBLIC)
                    && !modifiers.contains(Modifier.PROTECTED));
            int fields = 0;
            for (Element member : element.getEnclosedElements()) {
                if (member.getKind() == ElementKind.FIELD && !member.getModifiers().contains(Modifier.STATIC)) {
                    fields++;
                }
                if (outer && !member.getKind().isClass()) {
                    D.holds(member + " is public or private",
                        member.getModifiers().contains(Modifier.PUBLIC) || member.getModifiers().contains(Modifier.PRIVATE));
                }
            }
            D.holds("class " + tree.getSimpleName() + " has not " + fields + " fields", fields <= MOST_FIELDS);
            return super.visitClass(tree, none);
        }

        @Override
        public Void visitMethod(MethodTree tree, Void none) {
            Element before = method;
            method = element();
            calls.putIfAbsent(method, new LinkedHashSet<>());
            if (method.getKind() == ElementKind.METHOD) {
                (method.getModifiers().contains(Modifier.PUBLIC) ? publicNames : privateNames).add(tree.getName().toString());
            }
            D.holds(method + " has at most seven parameters", tree.getParameters().size() <= MOST_PARAMETERS);
            long first = trees.getSourcePositions().getStartPosition(unit, tree);
            long last = trees.getSourcePositions().getEndPosition(unit, tree);
            long lines = first < 0 || last < 0 ? 0
                : unit.getLineMap().getLineNumber(last) - unit.getLineMap().getLineNumber(first) + 1;
            D.holds(method + " has not " + lines + " lines", lines <= MOST_LINES);
            super.visitMethod(tree, none);
            method = before;
            return null;
        }

        @Override
        public Void visitVariable(VariableTree tree, Void none) {
            Element element = element();
            TypeMirror type = element.asType();
            D.holds("the type of " + tree + " is one that rule 3 leaves", isLeft(type));
            if (element.getModifiers().contains(Modifier.STATIC)) {
                boolean plain = NUMBERS.contains(type.getKind()) || type.toString().equals("java.lang.String");
                D.holds(tree.getName() + " is a constant", element.getModifiers().contains(Modifier.FINAL) && plain);
            }
            return super.visitVariable(tree, none);
        }

        private boolean isLeft(TypeMirror type) {
            if (type.getKind() == TypeKind.ARRAY) {
                TypeMirror of = ((ArrayType) type).getComponentType();
                return of.getKind() != TypeKind.ARRAY && isLeft(of);
            }
            return NUMBERS.contains(type.getKind()) || type.toString().equals("java.lang.String")
                || type.toString().startsWith("FortyBasket");
        }

        @Override
        public Void visitMethodInvocation(MethodInvocationTree tree, Void none) {
            Element called = trees.getElement(new TreePath(getCurrentPath(), tree.getMethodSelect()));
            String owner = called.getEnclosingElement().toString();
            if (owner.startsWith("FortyBasket")) {
                callOf(called);
            } else if (called.getKind() == ElementKind.METHOD) {
                String name = owner + "." + called.getSimpleName();
                D.holds(name + " is of the library that rule 4 leaves", LIBRARY.contains(name));
            }
            return super.visitMethodInvocation(tree, none);
        }

        @Override
        public Void visitNewClass(NewClassTree tree, Void none) {
            callOf(element());
            boolean made = method == null || method.getKind() == ElementKind.CONSTRUCTOR
                || method.getSimpleName().contentEquals("shop");
            D.holds(tree + " is made where an object is made, or by shop()", made);
            return super.visitNewClass(tree, none);
        }

        @Override
        public Void visitNewArray(NewArrayTree tree, Void none) {
            D.holds(tree + " is made where an object is made", method == null || method.getKind() == ElementKind.CONSTRUCTOR);
            return super.visitNewArray(tree, none);
        }

        private void callOf(Element called) {
            if (method != null) {
                calls.get(method).add(called);
            }
        }
    }

    /** The most calls that stand open from a method on, none of them twice. */
    private static int deepest(Element from, Map<Element, Set<Element>> calls, Set<Element> open) {
        if (!calls.containsKey(from) || !open.add(from)) {
            return 0;
        }
        int deepest = 0;
        for (Element next : calls.get(from)) {
            deepest = Math.max(deepest, deepest(next, calls, open));
        }
        open.remove(from);
        return deepest + 1;
    }

    public static void main(String[] args) throws IOException {
        JavaCompiler compiler = ToolProvider.getSystemJavaCompiler();
        StandardJavaFileManager files = compiler.getStandardFileManager(null, null, null);
        JavacTask task = (JavacTask) compiler.getTask(null, files, null, List.of("-proc:none"), null,
            files.getJavaFileObjects("src/main/java/FortyBasket.java"));
        for (CompilationUnitTree unit : task.parse()) {
            task.analyze();
            Look look = new Look(Trees.instance(task), unit);
            look.scan(unit, null);
            D.holds("there are not " + look.classes.size() + " classes", look.classes.size() <= MOST_CLASSES);
            for (String name : look.privateNames) {
                D.holds("private " + name + " does not bear the name of a public method", !look.publicNames.contains(name));
            }
            for (Element method : look.calls.keySet()) {
                int deep = deepest(method, look.calls, new HashSet<>());
                D.holds(method + " goes not " + deep + " deep", deep <= DEEPEST);
            }
        }
        D.finish();
    }
}
