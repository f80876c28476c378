import com.sun.source.tree.*;
import com.sun.source.util.JavacTask;
import com.sun.source.util.TreePathScanner;
import com.sun.source.util.Trees;
import java.io.File;
import java.util.ArrayList;
import java.util.HashMap;
import java.util.HashSet;
import java.util.List;
import java.util.Map;
import java.util.Set;
import java.util.TreeMap;
import java.util.TreeSet;
import javax.lang.model.element.Element;
import javax.lang.model.element.ElementKind;
import javax.lang.model.element.Modifier;
import javax.lang.model.type.TypeMirror;
import javax.tools.JavaCompiler;
import javax.tools.StandardJavaFileManager;
import javax.tools.ToolProvider;

/** The rules of ../shared/LANGUAGE.md that can be seen in the source of the class. */
public final class LanguageTest {
    private static final String SOURCE = "src/main/java/StepText.java";
    private static final Set<String> LIBRARY = Set.of("java.lang.String.length", "java.lang.String.charAt");
    private static final Set<String> THROWN = Set.of("IllegalStateException", "IllegalArgumentException",
            "IndexOutOfBoundsException", "ArithmeticException", "UnsupportedOperationException",
            "NoSuchElementException", "RuntimeException");
    private static final Set<Tree.Kind> BARRED = Set.of(Tree.Kind.LAMBDA_EXPRESSION, Tree.Kind.MEMBER_REFERENCE,
            Tree.Kind.ASSERT, Tree.Kind.SYNCHRONIZED, Tree.Kind.IMPORT);

    public static void main(String[] args) throws Exception {
        Due due = new Due();
        Source source = Source.of(SOURCE);

        due.by("rule 2: no lambda, no method reference; rule 6: no assert, no synchronized");
        due.same("what stands in the source", source.barred.toString(), "[]");

        due.by("rule 4: The library: only what stands here");
        Set<String> library = new TreeSet<>(source.library);
        library.removeAll(LIBRARY);
        due.same("calls of the library", library.toString(), "[]");

        due.by("rule 5: Static fields are final");
        due.same("static fields that are not", source.changeable.toString(), "[]");

        due.by("rule 6: throw new E() or throw new E(\"a written text\") .. no throw in a constructor");
        due.same("throws of another form", source.oddThrows.toString(), "[]");
        due.same("there are throws", source.throwing.isEmpty(), false);

        due.by("rule 6: try with one or more catches of these classes .. never in the very method that holds the throw");
        due.same("catches of another form", source.oddCatches.toString(), "[]");
        Set<String> both = new TreeSet<>(source.trying);
        both.retainAll(source.throwing);
        due.same("methods that try and throw", both.toString(), "[]");

        due.by("the Java machine itself never throws, and nothing catches what it throws");
        due.same("what is caught", source.caught.toString(), "[IllegalArgumentException]");

        due.by("rule 10: joining texts by StringBuilder (not by +)");
        due.same("texts joined by +", source.joinedTexts.toString(), "[]");

        due.by("rule 11: A method takes at most seven parameters. Methods stay short (some sixty lines)");
        due.same("methods too long or wide", source.oddMethods.toString(), "[]");

        due.by("rule 11: calls that are no recursion go at most eight deep");
        for (String method : source.calls.keySet()) {
            List<String> chain = source.deepest(method);
            due.same(method + " goes at most eight deep: " + chain, chain.size() <= 8, true);
        }

        due.by("rule 11: the file has at most some twelve classes, and a class some twenty fields beside its constants");
        due.same("at most twelve classes", source.fields.size() <= 12, true);
        source.fields.forEach((name, count) -> due.same(name + " has at most twenty fields", count <= 20, true));

        due.by("rule 12: An object may be made by any method: here all rows are made as the object is");
        due.same("made outside of constructors", source.made.toString(), "[IllegalArgumentException]");
        due.end();
    }

    /** What the compiler's own tree of the source tells. */
    private static final class Source extends TreePathScanner<Void, Void> {
        final Set<String> barred = new TreeSet<>();
        final Set<String> library = new TreeSet<>();
        final Set<String> changeable = new TreeSet<>();
        final Set<String> oddThrows = new TreeSet<>();
        final Set<String> oddCatches = new TreeSet<>();
        final Set<String> caught = new TreeSet<>();
        final Set<String> trying = new TreeSet<>();
        final Set<String> throwing = new TreeSet<>();
        final Set<String> joinedTexts = new TreeSet<>();
        final Set<String> oddMethods = new TreeSet<>();
        final Set<String> made = new TreeSet<>();
        final Map<String, Integer> fields = new TreeMap<>();
        final Map<String, Set<String>> calls = new TreeMap<>();

        private final Map<String, List<String>> deepest = new HashMap<>();
        private final Trees trees;
        private final CompilationUnitTree unit;
        private String method = "";

        private Source(Trees trees, CompilationUnitTree unit) {
            this.trees = trees;
            this.unit = unit;
        }

        static Source of(String path) throws Exception {
            JavaCompiler compiler = ToolProvider.getSystemJavaCompiler();
            try (StandardJavaFileManager files = compiler.getStandardFileManager(null, null, null)) {
                JavacTask task = (JavacTask) compiler.getTask(null, files, null, List.of("-proc:none"), null,
                        files.getJavaFileObjects(new File(path)));
                CompilationUnitTree unit = task.parse().iterator().next();
                task.analyze();
                Source source = new Source(Trees.instance(task), unit);
                source.scan(unit, null);
                return source;
            }
        }

        @Override
        public Void scan(Tree tree, Void none) {
            if (tree != null && BARRED.contains(tree.getKind())) {
                barred.add(tree.getKind() + " in line " + lineOf(tree));
            }
            return super.scan(tree, none);
        }

        @Override
        public Void visitClass(ClassTree tree, Void none) {
            int count = 0;
            for (Tree member : tree.getMembers()) {
                if (member instanceof VariableTree field) {
                    Set<Modifier> marks = field.getModifiers().getFlags();
                    boolean fixed = marks.contains(Modifier.STATIC);
                    count += fixed ? 0 : 1;
                    if (fixed && !marks.contains(Modifier.FINAL)) {
                        changeable.add(tree.getSimpleName() + "." + field.getName());
                    }
                }
            }
            fields.put(tree.getSimpleName().toString(), count);
            return super.visitClass(tree, none);
        }

        @Override
        public Void visitMethod(MethodTree tree, Void none) {
            String outer = method;
            method = nameOf(trees.getElement(getCurrentPath()));
            calls.computeIfAbsent(method, m -> new TreeSet<>());
            long lines = unit.getLineMap().getLineNumber(trees.getSourcePositions().getEndPosition(unit, tree))
                    - lineOf(tree) + 1;
            if (tree.getParameters().size() > 7 || lines > 60) {
                oddMethods.add(method);
            }
            super.visitMethod(tree, none);
            method = outer;
            return null;
        }

        @Override
        public Void visitMethodInvocation(MethodInvocationTree tree, Void none) {
            addCall(trees.getElement(getCurrentPath()));
            return super.visitMethodInvocation(tree, none);
        }

        @Override
        public Void visitNewClass(NewClassTree tree, Void none) {
            addCall(trees.getElement(getCurrentPath()));
            if (!method.isEmpty() && !method.endsWith("<init>")) {
                made.add(tree.getIdentifier().toString());
            }
            return super.visitNewClass(tree, none);
        }

        @Override
        public Void visitNewArray(NewArrayTree tree, Void none) {
            if (!method.isEmpty() && !method.endsWith("<init>")) {
                made.add("an array in " + method);
            }
            return super.visitNewArray(tree, none);
        }

        @Override
        public Void visitThrow(ThrowTree tree, Void none) {
            throwing.add(method);
            boolean due = tree.getExpression() instanceof NewClassTree made
                    && THROWN.contains(made.getIdentifier().toString())
                    && made.getArguments().size() <= 1
                    && made.getArguments().stream().allMatch(a -> a.getKind() == Tree.Kind.STRING_LITERAL);
            if (!due || method.endsWith("<init>")) {
                oddThrows.add(tree + " in line " + lineOf(tree));
            }
            return super.visitThrow(tree, none);
        }

        @Override
        public Void visitTry(TryTree tree, Void none) {
            trying.add(method);
            if (tree.getFinallyBlock() != null || !tree.getResources().isEmpty()) {
                oddCatches.add("finally or resources in line " + lineOf(tree));
            }
            for (CatchTree one : tree.getCatches()) {
                String type = one.getParameter().getType().toString();
                caught.add(type);
                if (!THROWN.contains(type)) {
                    oddCatches.add(type + " in line " + lineOf(one));
                }
            }
            return super.visitTry(tree, none);
        }

        @Override
        public Void visitBinary(BinaryTree tree, Void none) {
            TypeMirror type = trees.getTypeMirror(getCurrentPath());
            if (type != null && type.toString().equals("java.lang.String")) {
                joinedTexts.add("line " + lineOf(tree));
            }
            return super.visitBinary(tree, none);
        }

        /** The longest chain of methods from one on, where methods that call one another count once. */
        List<String> deepest(String from) {
            List<String> known = deepest.get(from);
            if (known != null) {
                return known;
            }
            List<String> best = List.of();
            for (String peer : calls.keySet()) {
                if (!peer.equals(from) && !(reaches(from, peer) && reaches(peer, from))) {
                    continue;
                }
                for (String next : calls.get(peer)) {
                    if (!reaches(next, from) && deepest(next).size() > best.size()) {
                        best = deepest(next);
                    }
                }
            }
            List<String> chain = new ArrayList<>(List.of(from));
            chain.addAll(best);
            deepest.put(from, chain);
            return chain;
        }

        private boolean reaches(String from, String to) {
            Set<String> seen = new HashSet<>();
            List<String> open = new ArrayList<>(List.of(from));
            while (!open.isEmpty()) {
                String next = open.remove(open.size() - 1);
                if (next.equals(to)) {
                    return true;
                }
                if (seen.add(next)) {
                    open.addAll(calls.getOrDefault(next, Set.of()));
                }
            }
            return false;
        }

        private void addCall(Element called) {
            String name = nameOf(called);
            if (name.startsWith("StepText")) {
                calls.computeIfAbsent(method, m -> new TreeSet<>()).add(name);
                calls.computeIfAbsent(name, m -> new TreeSet<>());
            } else if (called.getKind() != ElementKind.CONSTRUCTOR) {
                library.add(name);
            }
        }

        private static String nameOf(Element method) {
            return method.getEnclosingElement() + "." + method.getSimpleName();
        }

        private long lineOf(Tree tree) {
            return unit.getLineMap().getLineNumber(trees.getSourcePositions().getStartPosition(unit, tree));
        }
    }
}
