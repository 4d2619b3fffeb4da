import com.sun.source.tree.*;
import com.sun.source.util.JavacTask;
import com.sun.source.util.TreePath;
import com.sun.source.util.TreePathScanner;
import com.sun.source.util.Trees;
import java.nio.file.Path;
import java.util.ArrayList;
import java.util.HashMap;
import java.util.HashSet;
import java.util.LinkedHashMap;
import java.util.List;
import java.util.Map;
import java.util.Set;
import javax.lang.model.element.Element;
import javax.lang.model.element.ElementKind;
import javax.lang.model.element.ExecutableElement;
import javax.lang.model.element.Modifier;
import javax.lang.model.type.ArrayType;
import javax.lang.model.type.TypeKind;
import javax.lang.model.type.TypeMirror;
import javax.tools.JavaCompiler;
import javax.tools.StandardJavaFileManager;
import javax.tools.ToolProvider;

/** The rules of ../shared/LANGUAGE.md that can be seen in the class's own text, told by number. */
public final class LanguageTest {
    private static final Path SOURCE = Path.of("src", "main", "java", "WatchStack.java");
    private static final int CLASSES = 12;
    private static final int FIELDS = 20;
    private static final int PARAMETERS = 7;
    private static final int LINES = 60;
    private static final int DEPTH = 8;

    public static void main(String[] args) throws Exception {
        JavaCompiler compiler = ToolProvider.getSystemJavaCompiler();
        Rules rules;
        try (StandardJavaFileManager files = compiler.getStandardFileManager(null, null, null)) {
            JavacTask task = (JavacTask) compiler.getTask(null, files, null, List.of("--release", "17"), null,
                    files.getJavaFileObjects(SOURCE));
            CompilationUnitTree unit = task.parse().iterator().next();
            task.analyze();
            rules = new Rules(Trees.instance(task), unit);
            rules.scan(unit, null);
        }
        rules.finish();
    }

    /** Looks at each piece of the text. */
    private static final class Rules extends TreePathScanner<Void, Void> {
        /** What rule 4 leaves of the library (Integer, Long and Math apart). */
        private static final Set<String> LIBRARY = Set.of("java.lang.String.length", "java.lang.String.charAt",
                "java.lang.String.isEmpty", "java.lang.String.equals", "java.lang.String.indexOf",
                "java.lang.String.substring", "java.lang.String.toCharArray", "java.lang.StringBuilder.append",
                "java.lang.StringBuilder.charAt", "java.lang.StringBuilder.setCharAt", "java.lang.StringBuilder.setLength",
                "java.lang.StringBuilder.deleteCharAt", "java.lang.StringBuilder.reverse", "java.lang.StringBuilder.length",
                "java.lang.StringBuilder.toString", "java.util.ArrayList.add", "java.util.ArrayList.get",
                "java.util.ArrayList.set", "java.util.ArrayList.remove", "java.util.ArrayList.size",
                "java.util.ArrayList.isEmpty", "java.util.ArrayList.clear", "java.lang.System.arraycopy",
                "java.util.Arrays.copyOf", "java.util.Arrays.copyOfRange", "java.util.Arrays.fill");
        private static final Set<String> NUMBERS = Set.of("java.lang.Integer", "java.lang.Long", "java.lang.Math");
        private static final Set<Tree.Kind> RULED_OUT = Set.of(Tree.Kind.LAMBDA_EXPRESSION, Tree.Kind.MEMBER_REFERENCE,
                Tree.Kind.SYNCHRONIZED, Tree.Kind.ASSERT, Tree.Kind.IMPORT, Tree.Kind.PACKAGE,
                Tree.Kind.ANNOTATION_TYPE, Tree.Kind.MODULE);

        private final Trees trees;
        private final CompilationUnitTree unit;
        private final List<String> broken = new ArrayList<>();
        private final Map<String, Set<String>> calls = new LinkedHashMap<>();
        private final Map<String, Integer> depths = new HashMap<>();
        private final Set<String> faceNames = new HashSet<>();
        private final Set<String> privateNames = new HashSet<>();
        private final List<String> face = new ArrayList<>();
        private int classes;
        private int looked;

        Rules(Trees trees, CompilationUnitTree unit) {
            this.trees = trees;
            this.unit = unit;
        }

        private void rule(int number, boolean kept, Tree at, String what) {
            looked++;
            if (!kept) {
                long place = trees.getSourcePositions().getStartPosition(unit, at);
                broken.add("rule " + number + ", line " + unit.getLineMap().getLineNumber(place) + ": " + what);
            }
        }

        @Override
        public Void scan(Tree tree, Void none) {
            if (tree != null) {
                rule(10, !RULED_OUT.contains(tree.getKind()), tree, "none of " + tree.getKind());
            }
            return super.scan(tree, none);
        }

        private Element elementHere() {
            return trees.getElement(getCurrentPath());
        }

        @Override
        public Void visitClass(ClassTree tree, Void none) {
            classes++;
            Element its = elementHere();
            boolean top = its.getEnclosingElement().getKind() == ElementKind.PACKAGE;
            Set<Modifier> words = its.getModifiers();
            rule(1, top == words.contains(Modifier.PUBLIC) && !words.contains(Modifier.PROTECTED), tree, "one public class");
            rule(1, !top || words.contains(Modifier.FINAL), tree, "it is final");
            rule(2, top || words.contains(Modifier.STATIC), tree, "classes inside are static");
            rule(2, its.getKind().isClass() || its.getKind().isInterface(), tree, "a class");
            rule(2, getCurrentPath().getParentPath().getLeaf().getKind() != Tree.Kind.BLOCK, tree, "no local class");
            int fields = 0;
            for (Tree member : tree.getMembers()) {
                if (member instanceof VariableTree field) {
                    Set<Modifier> its2 = field.getModifiers().getFlags();
                    fields += its2.contains(Modifier.STATIC) ? 0 : 1;
                    rule(5, !its2.contains(Modifier.STATIC) || isConstant(field), member, "a static field is a constant");
                }
                boolean block = member.getKind() == Tree.Kind.BLOCK;
                rule(5, !block, member, "no initialiser block");
            }
            rule(11, fields <= FIELDS, tree, fields + " fields");
            return super.visitClass(tree, none);
        }

        private boolean isConstant(VariableTree field) {
            String type = field.getType().toString();
            return field.getModifiers().getFlags().contains(Modifier.FINAL) && field.getInitializer() != null
                    && Set.of("int", "long", "boolean", "char", "String", "int[]", "long[]", "char[]", "byte[]").contains(type);
        }

        @Override
        public Void visitMethod(MethodTree tree, Void none) {
            Element its = elementHere();
            Element owner = its.getEnclosingElement();
            String name = tree.getName().toString();
            boolean top = owner.getEnclosingElement().getKind() == ElementKind.PACKAGE;
            boolean open = its.getModifiers().contains(Modifier.PUBLIC);
            rule(1, !top || open || its.getModifiers().contains(Modifier.PRIVATE), tree, name + " is public or private");
            if (top && open && its.getKind() == ElementKind.METHOD) {
                faceNames.add(name);
                face.add(keyOf(its));
            }
            if (its.getModifiers().contains(Modifier.PRIVATE)) {
                privateNames.add(name);
            }
            rule(11, tree.getParameters().size() <= PARAMETERS, tree, name + ": parameters");
            rule(11, linesOf(tree) <= LINES, tree, name + ": " + linesOf(tree) + " lines");
            rule(6, tree.getThrows().isEmpty(), tree, name + " throws");
            calls.computeIfAbsent(keyOf(its), k -> new HashSet<>());
            return super.visitMethod(tree, none);
        }

        private long linesOf(Tree tree) {
            long from = trees.getSourcePositions().getStartPosition(unit, tree);
            long to = trees.getSourcePositions().getEndPosition(unit, tree);
            return unit.getLineMap().getLineNumber(to) - unit.getLineMap().getLineNumber(from) + 1;
        }

        @Override
        public Void visitVariable(VariableTree tree, Void none) {
            Element its = elementHere();
            rule(3, isAllowed(its.asType()), tree, "type " + its.asType());
            if (its.getKind() == ElementKind.FIELD && isTop(its.getEnclosingElement())) {
                boolean shown = tree.getName().contentEquals("NONE");
                rule(1, its.getModifiers().contains(shown ? Modifier.PUBLIC : Modifier.PRIVATE), tree, "field " + tree.getName());
            }
            return super.visitVariable(tree, none);
        }

        private boolean isTop(Element type) {
            return type.getEnclosingElement().getKind() == ElementKind.PACKAGE;
        }

        private boolean isAllowed(TypeMirror type) {
            if (type.getKind() == TypeKind.ARRAY) {
                TypeMirror part = ((ArrayType) type).getComponentType();
                boolean rows = part.getKind() == TypeKind.ARRAY;
                return rows ? ((ArrayType) part).getComponentType().getKind().isPrimitive() : isAllowed(part);
            }
            String name = type.toString();
            return type.getKind().isPrimitive() || name.equals("java.lang.String") || name.equals("java.lang.StringBuilder")
                    || name.startsWith("WatchStack.") || name.equals("WatchStack");
        }

        @Override
        public Void visitMethodInvocation(MethodInvocationTree tree, Void none) {
            Element its = elementHere();
            note(tree, its);
            String owner = its.getEnclosingElement().toString();
            boolean own = owner.startsWith("WatchStack");
            String name = owner + "." + its.getSimpleName();
            boolean ofNumbers = NUMBERS.contains(owner) && !name.endsWith("Exact") && takesWholeNumbers((ExecutableElement) its);
            boolean superCall = name.equals("java.lang.Object.<init>");
            rule(4, own || ofNumbers || superCall || LIBRARY.contains(name), tree, name);
            return super.visitMethodInvocation(tree, none);
        }

        private boolean takesWholeNumbers(ExecutableElement method) {
            return method.getParameters().stream()
                    .allMatch(p -> p.asType().getKind() == TypeKind.INT || p.asType().getKind() == TypeKind.LONG);
        }

        @Override
        public Void visitNewClass(NewClassTree tree, Void none) {
            Element its = elementHere();
            note(tree, its);
            String owner = its.getEnclosingElement().toString();
            rule(4, owner.startsWith("WatchStack.") || owner.equals("java.lang.StringBuilder"), tree, "new " + owner);
            rule(2, tree.getClassBody() == null, tree, "no class without a name");
            return super.visitNewClass(tree, none);
        }

        /** Who calls whom; what stands in a field's initialiser is called by the constructor. */
        private void note(Tree tree, Element called) {
            TreePath path = getCurrentPath();
            while (path.getLeaf().getKind() != Tree.Kind.METHOD && path.getParentPath().getLeaf().getKind() != Tree.Kind.CLASS) {
                path = path.getParentPath();
            }
            boolean inMethod = path.getLeaf().getKind() == Tree.Kind.METHOD;
            Element type = trees.getElement(path.getParentPath());
            String from = inMethod ? keyOf(trees.getElement(path)) : type + "." + type.getSimpleName() + "()";
            if (called.getEnclosingElement().toString().startsWith("WatchStack")) {
                calls.computeIfAbsent(from, k -> new HashSet<>()).add(keyOf(called));
            }
        }

        private String keyOf(Element method) {
            return method.getEnclosingElement() + "." + method;
        }

        @Override
        public Void visitThrow(ThrowTree tree, Void none) {
            rule(6, false, tree, "the document names no exception");
            return super.visitThrow(tree, none);
        }

        @Override
        public Void visitTry(TryTree tree, Void none) {
            rule(6, false, tree, "there is nothing to catch");
            return super.visitTry(tree, none);
        }

        @Override
        public Void visitForLoop(ForLoopTree tree, Void none) {
            rule(9, tree.getCondition() != null && hasBound(tree.getCondition()), tree, "a loop's end");
            return super.visitForLoop(tree, none);
        }

        @Override
        public Void visitWhileLoop(WhileLoopTree tree, Void none) {
            rule(9, hasBound(tree.getCondition()), tree, "a loop's end");
            return super.visitWhileLoop(tree, none);
        }

        @Override
        public Void visitDoWhileLoop(DoWhileLoopTree tree, Void none) {
            rule(9, hasBound(tree.getCondition()), tree, "a loop's end");
            return super.visitDoWhileLoop(tree, none);
        }

        private boolean hasBound(ExpressionTree condition) {
            return condition.toString().matches("(?s).*(<|>|<=|>=).*");
        }

        @Override
        public Void visitBinary(BinaryTree tree, Void none) {
            boolean texts = trees.getTypeMirror(getCurrentPath()).toString().equals("java.lang.String");
            rule(10, !texts, tree, "texts are not joined by +");
            boolean parts = tree.getKind() == Tree.Kind.REMAINDER;
            rule(3, !parts || trees.getTypeMirror(getCurrentPath()).getKind() == TypeKind.INT, tree, "% of whole numbers alone");
            return super.visitBinary(tree, none);
        }

        @Override
        public Void visitLiteral(LiteralTree tree, Void none) {
            if (tree.getValue() instanceof String text) {
                rule(4, text.chars().allMatch(c -> c >= 1 && c <= 127), tree, "signs 1 to 127");
            }
            return super.visitLiteral(tree, none);
        }

        /** How many calls stand open at most, this one counted; -1 in a ring. */
        private int depthOf(String method, Set<String> open) {
            Integer known = depths.get(method);
            if (known != null) {
                return known;
            }
            if (!open.add(method)) {
                broken.add("rule 8: " + method + " calls itself");
                return 1;
            }
            int deepest = 0;
            for (String called : calls.getOrDefault(method, Set.of())) {
                deepest = Math.max(deepest, depthOf(called, open));
            }
            open.remove(method);
            depths.put(method, deepest + 1);
            return deepest + 1;
        }

        void finish() {
            for (String method : face) {
                int depth = depthOf(method, new HashSet<>());
                looked++;
                if (depth > DEPTH) {
                    broken.add("rule 11: " + method + " goes " + depth + " deep");
                }
            }
            for (String name : privateNames) {
                looked++;
                if (faceNames.contains(name)) {
                    broken.add("rule 1: a private method bears the public name " + name);
                }
            }
            if (classes > CLASSES) {
                broken.add("rule 11: " + classes + " classes");
            }
            if (face.size() != 55) {
                broken.add("rule 1: " + face.size() + " public methods");
            }
            broken.forEach(System.out::println);
            System.out.println("LanguageTest: " + looked + " places, " + broken.size() + " against a rule");
            if (!broken.isEmpty() || looked < 1000) {
                System.exit(1);
            }
        }
    }
}
