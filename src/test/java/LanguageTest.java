import com.sun.source.tree.ArrayAccessTree;
import com.sun.source.tree.AssertTree;
import com.sun.source.tree.BinaryTree;
import com.sun.source.tree.ClassTree;
import com.sun.source.tree.CompilationUnitTree;
import com.sun.source.tree.CompoundAssignmentTree;
import com.sun.source.tree.ExpressionTree;
import com.sun.source.tree.LambdaExpressionTree;
import com.sun.source.tree.MemberReferenceTree;
import com.sun.source.tree.MethodInvocationTree;
import com.sun.source.tree.MethodTree;
import com.sun.source.tree.NewArrayTree;
import com.sun.source.tree.NewClassTree;
import com.sun.source.tree.SynchronizedTree;
import com.sun.source.tree.ThrowTree;
import com.sun.source.tree.Tree;
import com.sun.source.tree.TryTree;
import com.sun.source.tree.TypeCastTree;
import com.sun.source.tree.WhileLoopTree;
import com.sun.source.util.JavacTask;
import com.sun.source.util.TreePathScanner;
import com.sun.source.util.Trees;
import java.io.File;
import java.lang.reflect.Field;
import java.lang.reflect.Method;
import java.lang.reflect.Modifier;
import java.util.ArrayList;
import java.util.HashMap;
import java.util.List;
import java.util.Map;
import java.util.Set;
import java.util.TreeMap;
import java.util.TreeSet;
import javax.lang.model.element.Element;
import javax.lang.model.element.ElementKind;
import javax.tools.JavaCompiler;
import javax.tools.StandardJavaFileManager;
import javax.tools.ToolProvider;

/** The face of the class, and the rules of LANGUAGE.md that can be read off its source. */
public final class LanguageTest {
    private static final Due DUE = new Due("LanguageTest");
    private static final String FACE = "square(int,int,int)int steps(int)int squareTold(int,int)int worth(int)int "
        + "best(int)int many(int)int ring(int)int mend(int)int plays(int,int)long play(long)int telling(int,int)int "
        + "gap(int,int)int date(int,int)int take(int)int changes(int,int)int child(int)int tree(int)int "
        + "stood(int,int)int quarrel(int,int)long feed(int,long)int text()int force(int)int says(int,int)long "
        + "street(int,int)int years(int)int has(int)int game(int,int,int,long)int marbles(int)int count(int)int "
        + "sheet(int,int,int)int cell(int,int,int)int copy(int,int,int,int,int)int squares(int,int,int,int)int "
        + "taken(int,int)int";
    private static final Set<String> LIBRARY = Set.of("Math.floorMod", "Math.max", "Math.min", "Math.abs",
        "Integer.bitCount", "Integer.signum", "System.arraycopy", "String.length", "String.charAt");

    public static void main(String[] args) throws Exception {
        face();
        source(args.length > 0 ? args[0] : "src/main/java/ChalkStreet.java");
        DUE.end();
    }

    private static void face() throws Exception {
        Class<?> c = ChalkStreet.class;
        DUE.holds("rule 1: public and final", Modifier.isPublic(c.getModifiers()) && Modifier.isFinal(c.getModifiers()));
        DUE.holds("rule 1: one constructor", c.getDeclaredConstructors().length == 1 && c.getConstructor(int.class) != null);
        Set<String> found = new TreeSet<>();
        for (Method m : c.getDeclaredMethods()) {
            StringBuilder types = new StringBuilder();
            for (Class<?> p : m.getParameterTypes()) types.append(types.length() > 0 ? "," : "").append(p);
            if (!Modifier.isPrivate(m.getModifiers()) && !m.isSynthetic()) found.add(m.getName() + "(" + types + ")" + m.getReturnType());
        }
        DUE.holds("rule 1: methods " + found, found.equals(new TreeSet<>(List.of(FACE.split(" ")))));
        Map<String, Long> constants = new TreeMap<>();
        for (Field f : c.getDeclaredFields()) {
            int m = f.getModifiers();
            if (Modifier.isPrivate(m)) continue;
            DUE.holds("rule 1: constant " + f, Modifier.isPublic(m) && Modifier.isStatic(m) && Modifier.isFinal(m));
            DUE.holds("the type of " + f, f.getType() == (f.getName().equals("NO") ? long.class : int.class));
            constants.put(f.getName(), f.getLong(null));
        }
        DUE.holds("the constants " + constants, constants.equals(
            Map.of("NONE", -1L, "BAD", -2L, "STATE", -3L, "FULL", -4L, "NO", -4611686018427387904L)));
        for (Class<?> inner : c.getDeclaredClasses()) {
            DUE.holds("rule 2: static " + inner, Modifier.isStatic(inner.getModifiers()) && !Modifier.isPublic(inner.getModifiers()));
        }
    }

    private static void source(String path) throws Exception {
        JavaCompiler javac = ToolProvider.getSystemJavaCompiler();
        try (StandardJavaFileManager files = javac.getStandardFileManager(null, null, null)) {
            JavacTask task = (JavacTask) javac.getTask(null, files, null, List.of("-proc:none"), null,
                files.getJavaFileObjects(new File(path)));
            CompilationUnitTree unit = task.parse().iterator().next();
            task.analyze();
            Reading reading = new Reading(Trees.instance(task), unit);
            reading.scan(unit, null);
            reading.close();
        }
    }

    private static final class Reading extends TreePathScanner<Void, Void> {
        private final Trees trees;
        private final CompilationUnitTree unit;
        private final Set<String> faceNames = new TreeSet<>();
        private final Map<String, Set<String>> calls = new HashMap<>();
        private final List<String> owners = new ArrayList<>();
        private String method = "";
        private int classes = 0;

        Reading(Trees trees, CompilationUnitTree unit) {
            this.trees = trees;
            this.unit = unit;
            for (String m : FACE.split(" ")) faceNames.add(m.substring(0, m.indexOf('(')));
            DUE.is("rule 4: imports", unit.getImports().size(), 0);
            DUE.holds("no package", unit.getPackageName() == null);
        }

        private long line(long position) {
            return unit.getLineMap().getLineNumber(position);
        }

        private String at(Tree tree) {
            return " at line " + line(trees.getSourcePositions().getStartPosition(unit, tree));
        }

        private void bad(String what, Tree tree) {
            DUE.holds(what + at(tree), false);
        }

        private String owner() {
            return owners.get(owners.size() - 1);
        }

        @Override
        public Void visitClass(ClassTree c, Void v) {
            classes++;
            if (owners.size() > 1) bad("rule 2: a class inside a class inside", c);
            owners.add(c.getSimpleName().toString());
            int fields = 0;
            for (Tree member : c.getMembers()) {
                if (member.getKind() == Tree.Kind.BLOCK) bad("rule 5: a block", member);
                if (member.getKind() != Tree.Kind.VARIABLE) continue;
                Element field = trees.getElement(trees.getPath(unit, member));
                boolean isStatic = field.getModifiers().contains(javax.lang.model.element.Modifier.STATIC);
                boolean isFinal = field.getModifiers().contains(javax.lang.model.element.Modifier.FINAL);
                if (isStatic && !isFinal) bad("rule 5: a static field that is not final", member);
                if (!isStatic) fields++;
            }
            DUE.holds("rule 11: " + fields + " fields in " + owner(), fields <= 20);
            super.visitClass(c, v);
            owners.remove(owners.size() - 1);
            return null;
        }

        @Override
        public Void visitMethod(MethodTree m, Void v) {
            long from = line(trees.getSourcePositions().getStartPosition(unit, m));
            long to = line(trees.getSourcePositions().getEndPosition(unit, m));
            DUE.holds("rule 11: " + (to - from) + " lines" + at(m), to - from < 60);
            DUE.holds("rule 11: parameters" + at(m), m.getParameters().size() <= 7);
            boolean isOfFace = owners.size() == 1 && m.getModifiers().getFlags().contains(javax.lang.model.element.Modifier.PUBLIC);
            boolean bearsFaceName = faceNames.contains(m.getName().toString());
            DUE.holds("rule 1: a name of the face" + at(m), isOfFace || !bearsFaceName);
            method = owner() + "." + m.getName();
            calls.computeIfAbsent(method, k -> new TreeSet<>());
            super.visitMethod(m, v);
            method = "";
            return null;
        }

        @Override
        public Void visitMethodInvocation(MethodInvocationTree call, Void v) {
            Element called = trees.getElement(trees.getPath(unit, call.getMethodSelect()));
            if (called != null && called.getKind() == ElementKind.METHOD) {
                String name = called.getEnclosingElement().getSimpleName() + "." + called.getSimpleName();
                boolean own = called.getEnclosingElement().toString().startsWith("ChalkStreet");
                if (!own) DUE.holds("rule 4: " + name + at(call), LIBRARY.contains(name));
                if (own && !method.isEmpty()) calls.get(method).add(name);
            }
            return super.visitMethodInvocation(call, v);
        }

        @Override
        public Void visitNewClass(NewClassTree made, Void v) {
            if (made.getClassBody() != null) bad("rule 2: an anonymous class", made);
            if (!method.isEmpty() && !method.endsWith("<init>")) bad("an object made in a call", made);
            return super.visitNewClass(made, v);
        }

        @Override
        public Void visitArrayAccess(ArrayAccessTree access, Void v) {
            if (!owner().equals("Row")) bad("an index that Row does not test", access);
            return super.visitArrayAccess(access, v);
        }

        @Override
        public Void visitNewArray(NewArrayTree made, Void v) {
            if (!method.equals("Row.<init>")) bad("an array that Row does not make", made);
            return super.visitNewArray(made, v);
        }

        @Override
        public Void visitBinary(BinaryTree b, Void v) {
            boolean divides = b.getKind() == Tree.Kind.DIVIDE || b.getKind() == Tree.Kind.REMAINDER;
            if (divides && !isSure(b.getRightOperand())) bad("a divisor that is not tested", b);
            return super.visitBinary(b, v);
        }

        /** A constant, or the ring's size, which Rules.around tests. */
        private boolean isSure(ExpressionTree divisor) {
            String text = divisor.toString();
            return text.matches("[1-9][0-9]*|[A-Z_]+") || method.equals("Rules.around") && text.equals("size");
        }

        @Override
        public Void visitCompoundAssignment(CompoundAssignmentTree a, Void v) {
            boolean divides = a.getKind() == Tree.Kind.DIVIDE_ASSIGNMENT || a.getKind() == Tree.Kind.REMAINDER_ASSIGNMENT;
            if (divides && !isSure(a.getExpression())) bad("a divisor that is not tested", a);
            return super.visitCompoundAssignment(a, v);
        }

        @Override
        public Void visitTypeCast(TypeCastTree cast, Void v) {
            if (!cast.getType().toString().matches("int|byte|short|long")) bad("a cast of an object", cast);
            return super.visitTypeCast(cast, v);
        }

        @Override
        public Void visitThrow(ThrowTree t, Void v) {
            bad("rule 6: throw", t);
            return super.visitThrow(t, v);
        }

        @Override
        public Void visitTry(TryTree t, Void v) {
            bad("rule 6: try", t);
            return super.visitTry(t, v);
        }

        @Override
        public Void visitSynchronized(SynchronizedTree t, Void v) {
            bad("rule 6: synchronized", t);
            return super.visitSynchronized(t, v);
        }

        @Override
        public Void visitAssert(AssertTree t, Void v) {
            bad("rule 6: assert", t);
            return super.visitAssert(t, v);
        }

        @Override
        public Void visitLambdaExpression(LambdaExpressionTree t, Void v) {
            bad("rule 2: a lambda", t);
            return super.visitLambdaExpression(t, v);
        }

        @Override
        public Void visitMemberReference(MemberReferenceTree t, Void v) {
            bad("rule 2: a method reference", t);
            return super.visitMemberReference(t, v);
        }

        @Override
        public Void visitWhileLoop(WhileLoopTree t, Void v) {
            // A while has an end to be seen only if it counts against a bound.
            DUE.holds("rule 9: a bound" + at(t), t.getCondition().toString().matches("\\(?\\w+ < \\w+.*"));
            return super.visitWhileLoop(t, v);
        }

        void close() {
            DUE.holds("rule 11: " + classes + " classes", classes <= 12);
            for (String m : calls.keySet()) {
                List<String> way = deepest(m, new ArrayList<>());
                DUE.holds("rule 11: " + way.size() + " deep: " + way, way.size() <= 8);
                boolean again = reaches(m, m, new TreeSet<>());
                DUE.holds("rule 8: " + m + " calls itself", !again || m.startsWith("Reader.reads"));
            }
        }

        private boolean reaches(String from, String to, Set<String> seen) {
            for (String next : calls.getOrDefault(from, Set.of())) {
                if (next.equals(to) || seen.add(next) && reaches(next, to, seen)) return true;
            }
            return false;
        }

        /** The longest way of calls in which those of one recursion (the grammar's) count as one. */
        private List<String> deepest(String m, List<String> way) {
            List<String> here = new ArrayList<>(way);
            boolean grammar = m.startsWith("Reader.reads") && way.toString().contains("Reader.reads");
            if (!grammar) here.add(m);
            List<String> best = here;
            if (here.size() > 20) return here;
            for (String next : calls.getOrDefault(m, Set.of())) {
                if (grammar && next.startsWith("Reader.reads")) continue;
                if (m.startsWith("Reader.reads") && next.startsWith("Reader.reads") && !grammar) {
                    for (String g : calls.keySet()) {
                        if (!g.startsWith("Reader.reads") || g.equals(m)) continue;
                        List<String> more = deepest(g, here);
                        if (more.size() > best.size()) best = more;
                    }
                    continue;
                }
                List<String> more = deepest(next, here);
                if (more.size() > best.size()) best = more;
            }
            return best;
        }
    }
}
