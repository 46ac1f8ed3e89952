import com.sun.source.tree.*;
import com.sun.source.util.JavacTask;
import com.sun.source.util.TreePath;
import com.sun.source.util.TreePathScanner;
import com.sun.source.util.Trees;
import java.io.IOException;
import java.nio.file.Files;
import java.nio.file.Path;
import java.util.ArrayList;
import java.util.HashMap;
import java.util.HashSet;
import java.util.List;
import java.util.Map;
import java.util.Set;
import java.util.TreeMap;
import java.util.TreeSet;
import javax.lang.model.element.Element;
import javax.lang.model.element.ElementKind;
import javax.lang.model.element.Modifier;
import javax.lang.model.element.TypeElement;
import javax.lang.model.type.ArrayType;
import javax.lang.model.type.TypeKind;
import javax.lang.model.type.TypeMirror;
import javax.tools.JavaCompiler;
import javax.tools.StandardJavaFileManager;
import javax.tools.ToolProvider;

/** The rules of LANGUAGE.md, by their numbers, read off the compiler's own tree of the source. */
public final class LanguageTest {
    private static final Path SOURCE = Path.of("src/main/java/UpperFloors.java");

    /** Rule 4, what of it may be called: a class and a name, or "name(types)", where not all of that name may. */
    private static final Map<String, Set<String>> LIBRARY = Map.of(
        "java.lang.String", Set.of("length", "charAt", "isEmpty", "equals", "indexOf(int)", "substring", "toCharArray", "<init>(char[])"),
        "java.lang.StringBuilder", Set.of("<init>()", "append(char)", "append(java.lang.String)", "append(int)", "charAt", "setCharAt",
            "setLength", "deleteCharAt", "reverse", "length", "toString"),
        "java.util.ArrayList", Set.of("<init>()", "add", "get", "set", "remove(int)", "size", "isEmpty", "clear"),
        "java.util.List", Set.of("add", "get", "set", "remove(int)", "size", "isEmpty", "clear", "of"),
        "java.lang.Integer", Set.of("compare", "max", "min", "abs", "bitCount", "signum", "highestOneBit", "numberOfTrailingZeros"),
        "java.lang.Long", Set.of("compare", "max", "min", "abs", "bitCount", "signum"),
        "java.lang.Math", Set.of("max", "min", "abs", "floorDiv", "floorMod"),
        "java.lang.System", Set.of("arraycopy"),
        "java.util.Arrays", Set.of("copyOf", "copyOfRange", "fill"),
        // Each class begins with what Object's constructor does.
        "java.lang.Object", Set.of("<init>()"));

    private static final Set<String> LIBRARY_TYPES = Set.of("java.lang.String", "java.lang.StringBuilder", "java.lang.Integer");

    /** Trees that no rule leaves: exceptions (6), classes within methods and functions as values (2). */
    private static final Set<Tree.Kind> OUT = Set.of(Tree.Kind.THROW, Tree.Kind.TRY, Tree.Kind.CATCH, Tree.Kind.SYNCHRONIZED,
        Tree.Kind.ASSERT, Tree.Kind.LAMBDA_EXPRESSION, Tree.Kind.MEMBER_REFERENCE, Tree.Kind.IMPORT, Tree.Kind.PACKAGE);

    public static void main(String[] args) throws IOException {
        Path source = args.length > 0 ? Path.of(args[0]) : SOURCE;
        JavaCompiler compiler = ToolProvider.getSystemJavaCompiler();
        try (StandardJavaFileManager files = compiler.getStandardFileManager(null, null, null)) {
            JavacTask task = (JavacTask) compiler.getTask(null, files, null, List.of("-proc:none"), null, files.getJavaFileObjects(source));
            CompilationUnitTree unit = task.parse().iterator().next();
            task.analyze();
            Reading reading = new Reading(unit, Trees.instance(task));
            reading.scan(unit, null);
            reading.whole();
        }
        for (char c : Files.readString(source).toCharArray()) if (c > 126) Check.holds("rule 4: the sign " + c, false);
        Check.end();
    }

    /** One walk over the tree: each thing that it comes by is looked at, what is told of the whole is kept till the end. */
    private static final class Reading extends TreePathScanner<Void, Void> {
        private final CompilationUnitTree unit;
        private final Trees trees;
        private final Map<Element, Set<Element>> calls = new HashMap<>();
        private final Map<Element, List<Element>> overriders = new HashMap<>();
        private final List<TypeElement> classes = new ArrayList<>();
        private final List<Element> methods = new ArrayList<>();
        private final TreeMap<String, Integer> made = new TreeMap<>();
        private Element method;
        private int loops;

        Reading(CompilationUnitTree unit, Trees trees) {
            this.unit = unit;
            this.trees = trees;
        }

        private String at(Tree tree) {
            return "line " + unit.getLineMap().getLineNumber(trees.getSourcePositions().getStartPosition(unit, tree));
        }

        private long line(Tree tree, boolean end) {
            long place = end ? trees.getSourcePositions().getEndPosition(unit, tree) : trees.getSourcePositions().getStartPosition(unit, tree);
            return unit.getLineMap().getLineNumber(place);
        }

        private void rule(int number, Tree tree, String what, boolean holds) {
            Check.holds("rule " + number + ", " + at(tree) + ": " + what, holds);
        }

        private Element element() {
            return trees.getElement(getCurrentPath());
        }

        private TypeMirror type(Tree tree) {
            return trees.getTypeMirror(new TreePath(getCurrentPath(), tree));
        }

        private boolean own(TypeMirror type) {
            return classes.stream().anyMatch(c -> c.asType().toString().equals(type.toString()))
                || type.toString().startsWith("UpperFloors.") || type.toString().equals("UpperFloors");
        }

        private boolean text(TypeMirror type) {
            return type != null && type.toString().equals("java.lang.String");
        }

        @Override public Void scan(Tree tree, Void p) {
            if (tree != null) rule(6, tree, tree.getKind() + " is out", !OUT.contains(tree.getKind()));
            return super.scan(tree, p);
        }

        // ---- classes and their members

        @Override public Void visitClass(ClassTree tree, Void p) {
            TypeElement c = (TypeElement) element();
            boolean outer = getCurrentPath().getParentPath().getLeaf() == unit;
            classes.add(c);
            Tree around = getCurrentPath().getParentPath().getLeaf();
            rule(2, tree, "a class within a method", around == unit || around instanceof ClassTree);
            if (outer) rule(1, tree, "public and final", c.getModifiers().containsAll(Set.of(Modifier.PUBLIC, Modifier.FINAL)));
            else {
                rule(2, tree, "static", c.getModifiers().contains(Modifier.STATIC));
                rule(1, tree, "private or package-visible", !c.getModifiers().contains(Modifier.PUBLIC)
                    && !c.getModifiers().contains(Modifier.PROTECTED));
            }
            long fields = tree.getMembers().stream().filter(m -> m instanceof VariableTree v
                && !v.getModifiers().getFlags().contains(Modifier.STATIC)).count();
            rule(11, tree, c + " has " + fields + " fields", fields <= 20);
            for (Tree member : tree.getMembers()) {
                rule(5, member, "an initialiser block", member.getKind() != Tree.Kind.BLOCK);
            }
            return super.visitClass(tree, p);
        }

        @Override public Void visitMethod(MethodTree tree, Void p) {
            Element was = method;
            method = element();
            methods.add(method);
            boolean outer = method.getEnclosingElement().toString().equals("UpperFloors");
            if (outer) rule(1, tree, "public or private", method.getModifiers().contains(Modifier.PUBLIC)
                || method.getModifiers().contains(Modifier.PRIVATE));
            rule(11, tree, "at most seven parameters", tree.getParameters().size() <= 7);
            rule(11, tree, "a short method", line(tree, true) - line(tree, false) < 60);
            rule(6, tree, "no equals, hashCode, toString of one's own",
                !Set.of("equals", "hashCode", "toString").contains(tree.getName().toString()));
            if (tree.getReturnType() != null) type(3, tree, type(tree.getReturnType()));
            super.visitMethod(tree, p);
            method = was;
            return null;
        }

        @Override public Void visitVariable(VariableTree tree, Void p) {
            Element e = element();
            type(3, tree, e.asType());
            if (e.getKind() == ElementKind.FIELD && e.getModifiers().contains(Modifier.STATIC)) {
                rule(5, tree, "a static field is final", e.getModifiers().contains(Modifier.FINAL));
                boolean row = Set.of("int[]", "long[]", "char[]", "byte[]").contains(e.asType().toString());
                boolean one = Set.of("int", "long", "boolean", "char", "java.lang.String").contains(e.asType().toString());
                rule(5, tree, "a static field is a constant", one || row);
            }
            boolean outer = e.getKind() == ElementKind.FIELD && e.getEnclosingElement().toString().equals("UpperFloors");
            if (outer && !e.getModifiers().contains(Modifier.PRIVATE)) {
                rule(1, tree, "no field of the face but its constants", e.getModifiers().containsAll(
                    Set.of(Modifier.PUBLIC, Modifier.STATIC, Modifier.FINAL)));
            }
            return super.visitVariable(tree, p);
        }

        private void type(int number, Tree tree, TypeMirror type) {
            rule(number, tree, "the type " + type, type.getKind() == TypeKind.VOID || taken(type, 0));
        }

        private boolean taken(TypeMirror type, int deep) {
            if (type.getKind() == TypeKind.ARRAY) return deep < 2 && taken(((ArrayType) type).getComponentType(), deep + 1);
            if (type.getKind().isPrimitive()) return true;
            if (deep > 1) return false;
            return own(type) || deep == 0 && (LIBRARY_TYPES.contains(type.toString())
                || type.toString().matches("java\\.util\\.(Array)?List<(java\\.lang\\.Integer|UpperFloors\\.\\w+)>"));
        }

        // ---- calls

        @Override public Void visitMethodInvocation(MethodInvocationTree tree, Void p) {
            called(tree, element());
            return super.visitMethodInvocation(tree, p);
        }

        @Override public Void visitNewClass(NewClassTree tree, Void p) {
            rule(2, tree, "no class without a name", tree.getClassBody() == null);
            called(tree, element());
            made.merge(String.valueOf(method), 1, Integer::sum);
            return super.visitNewClass(tree, p);
        }

        @Override public Void visitNewArray(NewArrayTree tree, Void p) {
            made.merge(String.valueOf(method), 1, Integer::sum);
            return super.visitNewArray(tree, p);
        }

        private void called(Tree tree, Element callee) {
            TypeElement of = (TypeElement) callee.getEnclosingElement();
            if (own(of.asType())) {
                if (method != null) calls.computeIfAbsent(method, m -> new HashSet<>()).add(callee);
                return;
            }
            Set<String> may = LIBRARY.getOrDefault(of.toString(), Set.of());
            String whole = callee.toString().replace(of.getSimpleName() + "(", "<init>(");
            boolean is = may.contains(callee.getSimpleName().toString()) || may.contains(whole) || callee.toString().equals("clone()");
            rule(4, tree, of + "." + callee, is);
        }

        // ---- signs, loops, casts

        @Override public Void visitBinary(BinaryTree tree, Void p) {
            TypeMirror left = type(tree.getLeftOperand());
            TypeMirror right = type(tree.getRightOperand());
            if (tree.getKind() == Tree.Kind.PLUS) rule(10, tree, "texts joined by +", !text(left) && !text(right));
            if (tree.getKind() == Tree.Kind.EQUAL_TO || tree.getKind() == Tree.Kind.NOT_EQUAL_TO) {
                rule(6, tree, "== between texts", !text(left) && !text(right));
                boolean both = left.toString().equals("java.lang.Integer") && right.toString().equals("java.lang.Integer");
                rule(6, tree, "== between Integers", !both);
            }
            if (tree.getKind() == Tree.Kind.DIVIDE || tree.getKind() == Tree.Kind.REMAINDER) {
                rule(7, tree, "a divisor that is never 0", aboveZero(new TreePath(getCurrentPath(), tree.getRightOperand())));
            }
            return super.visitBinary(tree, p);
        }

        /** A number above 0, or a variable that begins as one (and, as these do, goes up alone). */
        private boolean aboveZero(TreePath path) {
            if (path.getLeaf() instanceof LiteralTree number) return !number.getValue().toString().equals("0");
            if (!(path.getLeaf() instanceof IdentifierTree)) return false;
            TreePath declared = trees.getPath(trees.getElement(path));
            return declared.getLeaf() instanceof VariableTree v && v.getInitializer() != null
                && aboveZero(new TreePath(declared, v.getInitializer()));
        }

        @Override public Void visitTypeCast(TypeCastTree tree, Void p) {
            rule(6, tree, "a cast among classes wants its test", type(tree.getType()).getKind().isPrimitive());
            return super.visitTypeCast(tree, p);
        }

        @Override public Void visitWhileLoop(WhileLoopTree tree, Void p) {
            return loop(tree, tree.getCondition(), () -> super.visitWhileLoop(tree, p));
        }

        @Override public Void visitDoWhileLoop(DoWhileLoopTree tree, Void p) {
            return loop(tree, tree.getCondition(), () -> super.visitDoWhileLoop(tree, p));
        }

        @Override public Void visitForLoop(ForLoopTree tree, Void p) {
            rule(9, tree, "a counter goes on", tree.getUpdate().size() == 1);
            return loop(tree, tree.getCondition(), () -> super.visitForLoop(tree, p));
        }

        private Void loop(Tree tree, ExpressionTree condition, Runnable rest) {
            String bound = condition == null ? "" : condition.toString();
            rule(9, tree, "a counter against a bound: " + bound, bound.matches("(?s).*\\b\\w+ <=? .*"));
            loops++;
            rest.run();
            return null;
        }

        @Override public Void visitCompoundAssignment(CompoundAssignmentTree tree, Void p) {
            rule(10, tree, "texts joined by +=", !text(type(tree.getVariable())));
            return super.visitCompoundAssignment(tree, p);
        }

        // ---- what is told of the whole

        void whole() {
            Check.holds("rule 11: some twelve classes, not " + classes.size(), classes.size() <= 12);
            Check.holds("loops were read", loops > 20);
            TreeSet<String> faces = new TreeSet<>();
            for (Element m : methods) if (m.getModifiers().contains(Modifier.PUBLIC)) faces.add(m.getSimpleName().toString());
            for (Element m : methods) {
                boolean face = m.getModifiers().contains(Modifier.PUBLIC);
                boolean bears = m.getKind() == ElementKind.METHOD && faces.contains(m.getSimpleName().toString());
                Check.holds("rule 1: " + m + " bears a public name", face || !bears);
            }
            overriding();
            Set<Element> circles = new HashSet<>();
            for (Element m : methods) if (reaches(m, m, new HashSet<>())) circles.add(m);
            for (Element m : circles) {
                boolean carried = m.toString().contains("int");
                Check.holds("rule 8: " + m + " carries its depth", carried && m.getModifiers().contains(Modifier.PRIVATE));
            }
            for (Element m : methods) {
                int deep = deep(m, circles, new HashMap<>());
                Check.holds("rule 11: the calls of " + m + " go " + deep + " deep", deep <= 8);
            }
            Check.holds("rule 12: made in " + made.keySet(), made.keySet().equals(
                Set.of("null", "UpperFloors()", "build(int,int,int)")));
        }

        /** A call of a class's method may be one of a class below it. */
        private void overriding() {
            for (Element m : methods) {
                for (Element over : methods) {
                    if (m == over || m.getKind() != ElementKind.METHOD || !m.toString().equals(over.toString())) continue;
                    for (TypeElement c = above((TypeElement) over.getEnclosingElement()); c != null; c = above(c)) {
                        if (c == m.getEnclosingElement()) overriders.computeIfAbsent(m, k -> new ArrayList<>()).add(over);
                    }
                }
            }
        }

        private TypeElement above(TypeElement c) {
            for (TypeElement o : classes) if (o.asType().toString().equals(c.getSuperclass().toString())) return o;
            return null;
        }

        /** What a method calls; where it calls by super, that one alone is meant, so none below it counts for itself. */
        private Set<Element> next(Element m) {
            Set<Element> all = new HashSet<>();
            for (Element callee : calls.getOrDefault(m, Set.of())) {
                all.add(callee);
                boolean bySuper = overriders.getOrDefault(callee, List.of()).contains(m);
                if (!bySuper) all.addAll(overriders.getOrDefault(callee, List.of()));
            }
            return all;
        }

        private boolean reaches(Element from, Element to, Set<Element> seen) {
            for (Element callee : next(from)) {
                if (callee == to || seen.add(callee) && reaches(callee, to, seen)) return true;
            }
            return false;
        }

        /** How many calls stand open at most, a circle of methods that call one another counted as one. */
        private int deep(Element m, Set<Element> circles, Map<Element, Integer> known) {
            Integer is = known.get(m);
            if (is != null) return is;
            Set<Element> circle = new HashSet<>(Set.of(m));
            if (circles.contains(m)) {
                for (Element c : circles) if (reaches(m, c, new HashSet<>()) && reaches(c, m, new HashSet<>())) circle.add(c);
            }
            int most = 0;
            for (Element c : circle) {
                for (Element callee : next(c)) if (!circle.contains(callee)) most = Math.max(most, deep(callee, circles, known));
            }
            known.put(m, most + 1);
            return most + 1;
        }
    }
}
