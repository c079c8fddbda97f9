import com.sun.source.tree.AssertTree;
import com.sun.source.tree.BinaryTree;
import com.sun.source.tree.CatchTree;
import com.sun.source.tree.ClassTree;
import com.sun.source.tree.CompilationUnitTree;
import com.sun.source.tree.DoWhileLoopTree;
import com.sun.source.tree.EnhancedForLoopTree;
import com.sun.source.tree.ExpressionTree;
import com.sun.source.tree.ForLoopTree;
import com.sun.source.tree.IdentifierTree;
import com.sun.source.tree.LambdaExpressionTree;
import com.sun.source.tree.LiteralTree;
import com.sun.source.tree.MemberReferenceTree;
import com.sun.source.tree.MethodInvocationTree;
import com.sun.source.tree.MethodTree;
import com.sun.source.tree.NewArrayTree;
import com.sun.source.tree.NewClassTree;
import com.sun.source.tree.SynchronizedTree;
import com.sun.source.tree.ThrowTree;
import com.sun.source.tree.Tree;
import com.sun.source.tree.TryTree;
import com.sun.source.tree.TypeCastTree;
import com.sun.source.tree.VariableTree;
import com.sun.source.tree.WhileLoopTree;
import com.sun.source.util.JavacTask;
import com.sun.source.util.TreePath;
import com.sun.source.util.TreePathScanner;
import com.sun.source.util.TreeScanner;
import com.sun.source.util.Trees;
import java.io.IOException;
import java.net.URI;
import java.nio.file.Files;
import java.nio.file.Path;
import java.util.ArrayList;
import java.util.HashMap;
import java.util.LinkedHashMap;
import java.util.LinkedHashSet;
import java.util.List;
import java.util.Map;
import java.util.Set;
import java.util.TreeSet;
import javax.lang.model.element.Element;
import javax.lang.model.element.ElementKind;
import javax.lang.model.element.ExecutableElement;
import javax.lang.model.element.Modifier;
import javax.lang.model.element.TypeElement;
import javax.lang.model.type.TypeMirror;
import javax.tools.JavaFileObject;
import javax.tools.SimpleJavaFileObject;
import javax.tools.ToolProvider;

/** Looks at the source as javac reads it, rule by rule of LANGUAGE.md; run from the project's folder. */
public final class ShapeTest {
    static final Set<String> THROWN = Set.of("IllegalStateException", "IllegalArgumentException", "IndexOutOfBoundsException",
            "ArithmeticException", "UnsupportedOperationException", "NoSuchElementException", "RuntimeException");
    static final Set<String> CALLED = Set.of("String.length", "String.charAt", "String.isEmpty", "String.equals", "String.indexOf",
            "String.substring", "String.toCharArray", "StringBuilder.append", "StringBuilder.charAt", "StringBuilder.setCharAt",
            "StringBuilder.setLength", "StringBuilder.deleteCharAt", "StringBuilder.reverse", "StringBuilder.length",
            "StringBuilder.toString", "ArrayList.add", "ArrayList.get", "ArrayList.set", "ArrayList.remove", "ArrayList.size",
            "ArrayList.isEmpty", "ArrayList.clear", "List.add", "List.get", "List.set", "List.remove", "List.size", "List.isEmpty",
            "List.clear", "List.of", "System.arraycopy", "Arrays.copyOf", "Arrays.copyOfRange", "Arrays.fill");
    static final Set<String> NUMBERS = Set.of("int", "long", "short", "byte", "char", "boolean", "double", "float");
    static final Set<String> LIBRARY = Set.of("java.lang.String", "java.lang.StringBuilder", "java.lang.Integer");
    static final int MOST_LINES = 60;
    static final int MOST_PARAMETERS = 7;
    static final int MOST_DEPTH = 8;
    static final int MOST_CLASSES = 12;
    static final int MOST_FIELDS = 20;

    /** One rule broken each; the look must see it. */
    static final String[][] BROKEN = {
        {"2 lambda", "Runnable r = () -> { };"},
        {"2 local", "class Local { }"},
        {"2 anonymous", "Object o = new Object() { };"},
        {"3 type", "java.util.HashMap<String, String> m = null;"},
        {"3 type", "int[][][] deep = null;"},
        {"4 library", "int n = Math.addExact(1, 2);"},
        {"4 library", "String s = String.valueOf(1);"},
        {"4 library", "long n = System.nanoTime();"},
        {"6 thrown", "throw new NullPointerException();"},
        {"6 thrown", "RuntimeException e = null; throw e;"},
        {"6 thrown", "throw new RuntimeException(\"a\".substring(0));"},
        {"6 caught", "try { other(); } catch (NullPointerException e) { }"},
        {"6 caught", "try { other(); } catch (Exception e) { }"},
        {"6 caught", "try { other(); } catch (RuntimeException e) { if (e == null) { return; } }"},
        {"6 throw and try", "try { other(); throw new RuntimeException(); } catch (RuntimeException e) { }"},
        {"6 finally", "try { other(); } finally { other(); }"},
        {"6 assert", "assert 1 > 0;"},
        {"6 same text", "boolean b = \"a\" == new String(new char[0]);"},
        {"6 cast", "Object o = null; String s = (String) o;"},
        {"8 recursion", "look();"},
        {"9 end", "while (true) { other(); }"},
        {"9 end", "for (;;) { other(); }"},
        {"9 end", "do { other(); } while (true);"},
        {"10 joined", "String s = \"a\" + 1;"},
        {"11 parameters", "} private void many(int a, int b, int c, int d, int e, int f, int g, int h) {"},
        {"11 lines", "other();\n".repeat(MOST_LINES)},
        {"11 fields", "} private int a, b, c, d, e, f, g, h, i, j, k, l, m, n, o, p, q, r, s, t, u; private void more() {"},
        {"11 classes", "} static class A { } static class B { } static class C { } static class D { } static class E { } static class F { }"
            + " static class G { } static class H { } static class I { } static class J { } static class K { } static class L { } void m() {"},
        {"11 depth", "a(); } void a() { b(); } void b() { c(); } void c() { d(); } void d() { e(); } void e() { f(); } void f() { g(); }"
            + " void g() { other();"},
        {"12 loop", "for (int i = 0; i < 9; i++) { Object o = new Object(); }"},
        {"12 loop", "int[] all = {1, 2}; for (int i : all) { Object o = new Object(); }"},
        {"12 loop", "int i = 0; do { int[] made = new int[i]; } while (i > 0);"},
        {"12 constructor", "} static class A { A() { step(); } void step() { } } void m() {"},
        {"12 hands out", "} static class A { A(A[] all) { all[0] = this; } } void m() {"},
        {"5 static", "} static int counted; void m() {"},
        {"1 name", "} static class A { private void look() { } } void m() {"},
    };

    /** One source; what breaks a rule is told by line. */
    static final class Look extends TreePathScanner<Void, Void> {
        final List<String> faults = new ArrayList<>();
        private final Map<Element, Set<Element>> calls = new LinkedHashMap<>();
        /** Calls by super: they mean that very method, and none that overrides it. */
        private final Map<Element, Set<Element>> above = new HashMap<>();
        private final Map<Element, Integer> depths = new HashMap<>();
        private final Set<String> face = new TreeSet<>();
        private final Trees trees;
        private final JavacTask task;
        private CompilationUnitTree unit;
        private MethodTree method;
        private int loops;
        private int classes;

        Look(JavacTask task) {
            this.task = task;
            trees = Trees.instance(task);
        }

        void take(CompilationUnitTree source) {
            unit = source;
            for (Tree type : unit.getTypeDecls()) {
                for (Tree member : ((ClassTree) type).getMembers()) {
                    if (member instanceof MethodTree m && m.getModifiers().getFlags().contains(Modifier.PUBLIC)) {
                        face.add(m.getName().toString());
                    }
                }
            }
            scan(unit, null);
            if (classes > MOST_CLASSES) {
                faults.add("11: " + classes + " classes");
            }
            for (Element called : calls.keySet()) {
                int depth = depthOf(called, new ArrayList<>());
                if (depth > MOST_DEPTH) {
                    faults.add("11: " + called + " goes " + depth + " deep");
                }
            }
        }

        private void fault(Tree at, String what) {
            faults.add(lineOf(trees.getSourcePositions().getStartPosition(unit, at)) + ": " + what);
        }

        private long lineOf(long position) {
            return position < 0 ? 0 : unit.getLineMap().getLineNumber(position);
        }

        private Element element(Tree of) {
            return trees.getElement(new TreePath(getCurrentPath(), of));
        }

        private String type(Tree of) {
            TypeMirror t = trees.getTypeMirror(new TreePath(getCurrentPath(), of));
            return t == null ? "none" : t.toString();
        }

        private boolean isOwn(Element e) {
            Element outer = e;
            while (outer != null && outer.getKind() != ElementKind.PACKAGE) {
                if (outer instanceof TypeElement t && t.getQualifiedName().contentEquals("FurrowFair")) {
                    return true;
                }
                outer = outer.getEnclosingElement();
            }
            return false;
        }

        // ---- 1, 2, 3, 5, 11: what there is

        @Override
        public Void visitClass(ClassTree c, Void v) {
            classes++;
            if (method != null) {
                fault(c, "2: a class inside a method");
            }
            int fields = 0;
            for (Tree member : c.getMembers()) {
                if (member instanceof VariableTree f) {
                    Set<Modifier> flags = f.getModifiers().getFlags();
                    fields += flags.contains(Modifier.STATIC) ? 0 : 1;
                    if (flags.contains(Modifier.STATIC) && !flags.contains(Modifier.FINAL)) {
                        fault(f, "5: a static field that isn't final");
                    }
                } else if (member.getKind() == Tree.Kind.BLOCK) {
                    fault(member, "5: an initialiser block");
                }
            }
            if (fields > MOST_FIELDS) {
                fault(c, "11: " + fields + " fields");
            }
            return super.visitClass(c, v);
        }

        @Override
        public Void visitVariable(VariableTree f, Void v) {
            boolean caught = getCurrentPath().getParentPath().getLeaf() instanceof CatchTree;
            if (!caught && !isLeft(trees.getTypeMirror(getCurrentPath()))) {
                fault(f, "3: of type " + trees.getTypeMirror(getCurrentPath()));
            }
            return super.visitVariable(f, v);
        }

        private boolean isLeft(TypeMirror type) {
            String name = type.toString();
            String bare = name.replace("[]", "");
            int dimensions = (name.length() - bare.length()) / 2;
            if (NUMBERS.contains(bare)) {
                return dimensions <= 2;
            }
            boolean list = name.startsWith("java.util.List<") || name.startsWith("java.util.ArrayList<");
            boolean own = bare.equals("FurrowFair") || bare.startsWith("FurrowFair.");
            return dimensions == 0 && (LIBRARY.contains(name) || list) || own && dimensions <= 1;
        }

        @Override
        public Void visitMethod(MethodTree m, Void v) {
            long first = lineOf(trees.getSourcePositions().getStartPosition(unit, m));
            long last = lineOf(trees.getSourcePositions().getEndPosition(unit, m));
            if (last - first >= MOST_LINES) {
                fault(m, "11: a method of " + (last - first + 1) + " lines");
            }
            if (m.getParameters().size() > MOST_PARAMETERS) {
                fault(m, "11: " + m.getParameters().size() + " parameters");
            }
            if (m.getModifiers().getFlags().contains(Modifier.PRIVATE) && face.contains(m.getName().toString())) {
                fault(m, "1: a private method with a public one's name");
            }
            MethodTree outer = method;
            method = m;
            calls.put(trees.getElement(getCurrentPath()), new LinkedHashSet<>());
            above.put(trees.getElement(getCurrentPath()), new LinkedHashSet<>());
            super.visitMethod(m, v);
            method = outer;
            return null;
        }

        private boolean inConstructor() {
            // What javac writes itself (super()) has no place in the source.
            return method != null && method.getReturnType() == null;
        }

        // ---- 4, 8, 11, 12: what is called and made

        @Override
        public Void visitMethodInvocation(MethodInvocationTree call, Void v) {
            ExecutableElement called = (ExecutableElement) trees.getElement(getCurrentPath());
            boolean constructor = called.getKind() == ElementKind.CONSTRUCTOR;
            if (!isOwn(called)) {
                if (!constructor && !isCallLeft(called)) {
                    fault(call, "4: calls " + called.getEnclosingElement() + "." + called);
                }
            } else if (method != null) {
                boolean up = call.getMethodSelect().toString().startsWith("super");
                (up ? above : calls).get(element(method)).add(called);
                if (inConstructor() && !constructor) {
                    fault(call, "12: a constructor calls " + called);
                }
            }
            return super.visitMethodInvocation(call, v);
        }

        private boolean isCallLeft(ExecutableElement called) {
            String owner = called.getEnclosingElement().getSimpleName().toString();
            String name = called.getSimpleName().toString();
            boolean whole = owner.equals("Math") || owner.equals("Integer") || owner.equals("Long");
            if (whole && called.getModifiers().contains(Modifier.STATIC) && !name.endsWith("Exact")) {
                return NUMBERS.contains(called.getReturnType().toString()) && !called.toString().contains("double")
                        && !called.toString().contains("float") && !called.toString().contains("String") && !name.equals("random");
            }
            return CALLED.contains(owner + "." + name) || owner.equals("Array") && name.equals("clone");
        }

        @Override
        public Void visitNewClass(NewClassTree made, Void v) {
            boolean thrown = getCurrentPath().getParentPath().getLeaf() instanceof ThrowTree;
            if (made.getClassBody() != null) {
                fault(made, "2: an anonymous class");
            }
            if (!thrown && !isLeft(trees.getTypeMirror(getCurrentPath()))) {
                fault(made, "4: makes " + type(made));
            }
            if (loops > 0 && !inConstructor()) {
                fault(made, "12: made in a loop");
            }
            if (method != null && isOwn(trees.getElement(getCurrentPath()))) {
                calls.get(element(method)).add(trees.getElement(getCurrentPath()));
            }
            return super.visitNewClass(made, v);
        }

        @Override
        public Void visitNewArray(NewArrayTree made, Void v) {
            if (loops > 0 && !inConstructor()) {
                fault(made, "12: made in a loop");
            }
            return super.visitNewArray(made, v);
        }

        @Override
        public Void visitIdentifier(IdentifierTree name, Void v) {
            Tree parent = getCurrentPath().getParentPath().getLeaf();
            boolean handed = name.getName().contentEquals("this") && parent.getKind() != Tree.Kind.MEMBER_SELECT;
            if (handed && inConstructor()) {
                fault(name, "12: a constructor hands out its object");
            }
            return super.visitIdentifier(name, v);
        }

        /** How many calls stand open at once, this one counted. */
        private int depthOf(Element called, List<Element> open) {
            if (open.contains(called)) {
                faults.add("8: " + called + " comes back to itself");
                return 0;
            }
            Integer known = depths.get(called);
            if (known != null) {
                return known;
            }
            open.add(called);
            Set<Element> nexts = new LinkedHashSet<>(above.getOrDefault(called, Set.of()));
            for (Element next : calls.getOrDefault(called, Set.of())) {
                nexts.add(next);
                for (Element other : calls.keySet()) {
                    if (overrides(other, next)) {
                        nexts.add(other);
                    }
                }
            }
            int deepest = 0;
            for (Element next : nexts) {
                deepest = Math.max(deepest, depthOf(next, open));
            }
            open.remove(open.size() - 1);
            depths.put(called, deepest + 1);
            return deepest + 1;
        }

        private boolean overrides(Element one, Element other) {
            return one instanceof ExecutableElement a && other instanceof ExecutableElement b && a.getKind() == ElementKind.METHOD
                    && b.getKind() == ElementKind.METHOD
                    && task.getElements().overrides(a, b, (TypeElement) a.getEnclosingElement());
        }

        // ---- 6: what is thrown and caught

        @Override
        public Void visitThrow(ThrowTree thrown, Void v) {
            boolean good = thrown.getExpression() instanceof NewClassTree made && THROWN.contains(made.getIdentifier().toString())
                    && made.getArguments().size() <= 1 && made.getArguments().stream().allMatch(a -> a instanceof LiteralTree);
            if (!good) {
                fault(thrown, "6: " + thrown);
            }
            if (inConstructor()) {
                fault(thrown, "6: a constructor throws");
            }
            if (method != null && hasTry(method)) {
                fault(thrown, "6: throw and try in one method");
            }
            return super.visitThrow(thrown, v);
        }

        private static boolean hasTry(MethodTree m) {
            boolean[] has = new boolean[1];
            new TreeScanner<Void, Void>() {
                @Override
                public Void visitTry(TryTree t, Void v) {
                    has[0] = true;
                    return null;
                }
            }.scan(m, null);
            return has[0];
        }

        @Override
        public Void visitTry(TryTree tried, Void v) {
            if (tried.getFinallyBlock() != null || !tried.getResources().isEmpty()) {
                fault(tried, "6: finally, or resources");
            }
            return super.visitTry(tried, v);
        }

        @Override
        public Void visitCatch(CatchTree caught, Void v) {
            if (!THROWN.contains(caught.getParameter().getType().toString())) {
                fault(caught, "6: catches " + caught.getParameter().getType());
            }
            new TreeScanner<Void, Void>() {
                @Override
                public Void visitIdentifier(IdentifierTree name, Void v) {
                    if (name.getName().contentEquals(caught.getParameter().getName())) {
                        fault(name, "6: looks at what it caught");
                    }
                    return null;
                }
            }.scan(caught.getBlock(), null);
            return super.visitCatch(caught, v);
        }

        @Override
        public Void visitTypeCast(TypeCastTree cast, Void v) {
            if (!NUMBERS.contains(cast.getType().toString())) {
                fault(cast, "6: casts to " + cast.getType());
            }
            return super.visitTypeCast(cast, v);
        }

        @Override
        public Void visitBinary(BinaryTree two, Void v) {
            boolean texts = type(two.getLeftOperand()).equals("java.lang.String") || type(two.getRightOperand()).equals("java.lang.String");
            if (texts && two.getKind() == Tree.Kind.PLUS) {
                fault(two, "10: joins texts by +");
            } else if (type(two.getLeftOperand()).equals(type(two.getRightOperand())) && texts) {
                fault(two, "6: compares texts by " + two.getKind());
            }
            return super.visitBinary(two, v);
        }

        // ---- 2, 6, 9: words that aren't left, and loops

        @Override
        public Void visitLambdaExpression(LambdaExpressionTree l, Void v) {
            fault(l, "2: a lambda");
            return super.visitLambdaExpression(l, v);
        }

        @Override
        public Void visitMemberReference(MemberReferenceTree m, Void v) {
            fault(m, "2: a method reference");
            return super.visitMemberReference(m, v);
        }

        @Override
        public Void visitAssert(AssertTree a, Void v) {
            fault(a, "6: assert");
            return super.visitAssert(a, v);
        }

        @Override
        public Void visitSynchronized(SynchronizedTree s, Void v) {
            fault(s, "6: synchronized");
            return super.visitSynchronized(s, v);
        }

        @Override
        public Void visitWhileLoop(WhileLoopTree loop, Void v) {
            return looped(loop, loop.getCondition(), () -> super.visitWhileLoop(loop, v));
        }

        @Override
        public Void visitForLoop(ForLoopTree loop, Void v) {
            return looped(loop, loop.getCondition(), () -> super.visitForLoop(loop, v));
        }

        @Override
        public Void visitDoWhileLoop(DoWhileLoopTree loop, Void v) {
            return looped(loop, loop.getCondition(), () -> super.visitDoWhileLoop(loop, v));
        }

        @Override
        public Void visitEnhancedForLoop(EnhancedForLoopTree loop, Void v) {
            return looped(loop, loop.getExpression(), () -> super.visitEnhancedForLoop(loop, v));
        }

        private Void looped(Tree loop, ExpressionTree condition, Runnable inside) {
            String told = condition == null ? "" : condition.toString();
            if (told.isEmpty() || told.equals("(true)")) {
                fault(loop, "9: a loop without an end");
            }
            loops++;
            inside.run();
            loops--;
            return null;
        }
    }

    static JavaFileObject source(String text) {
        return new SimpleJavaFileObject(URI.create("string:///FurrowFair.java"), JavaFileObject.Kind.SOURCE) {
            @Override
            public CharSequence getCharContent(boolean ignored) {
                return text;
            }
        };
    }

    static List<String> faultsOf(String text) throws IOException {
        JavacTask task = (JavacTask) ToolProvider.getSystemJavaCompiler()
                .getTask(null, null, null, List.of("--release", "17", "-proc:none"), null, List.of(source(text)));
        CompilationUnitTree unit = task.parse().iterator().next();
        task.analyze();
        Look look = new Look(task);
        look.take(unit);
        return look.faults;
    }

    public static void main(String[] args) throws IOException {
        int wrong = 0;
        Path file = Path.of(args.length > 0 ? args[0] : "src/main/java/FurrowFair.java");
        for (String fault : faultsOf(Files.readString(file))) {
            wrong++;
            System.out.println(file + ":" + fault);
        }
        for (String[] broken : BROKEN) {
            String text = "public final class FurrowFair { public void look() { " + broken[1] + " } private static void other() { } }";
            List<String> faults = faultsOf(text);
            String rule = broken[0].substring(0, broken[0].indexOf(' '));
            if (faults.stream().noneMatch(f -> f.startsWith(rule + ":") || f.contains(": " + rule + ":"))) {
                wrong++;
                System.out.println("the look doesn't see rule " + broken[0] + " broken: " + faults);
            }
        }
        System.out.println(wrong == 0 ? "the source has the shape that is left" : wrong + " faults");
        if (wrong != 0) {
            System.exit(1);
        }
    }
}
