import com.sun.source.tree.AssertTree;
import com.sun.source.tree.BinaryTree;
import com.sun.source.tree.ClassTree;
import com.sun.source.tree.CompilationUnitTree;
import com.sun.source.tree.LambdaExpressionTree;
import com.sun.source.tree.MemberReferenceTree;
import com.sun.source.tree.MethodInvocationTree;
import com.sun.source.tree.MethodTree;
import com.sun.source.tree.NewArrayTree;
import com.sun.source.tree.NewClassTree;
import com.sun.source.tree.SynchronizedTree;
import com.sun.source.tree.ThrowTree;
import com.sun.source.tree.Tree;
import com.sun.source.tree.TryTree;
import com.sun.source.tree.TypeCastTree;
import com.sun.source.tree.VariableTree;
import com.sun.source.util.JavacTask;
import com.sun.source.util.TreePath;
import com.sun.source.util.TreePathScanner;
import com.sun.source.util.Trees;
import java.io.File;
import java.lang.reflect.Field;
import java.lang.reflect.Method;
import java.lang.reflect.Modifier;
import java.nio.file.Files;
import java.nio.file.Path;
import java.util.HashMap;
import java.util.HashSet;
import java.util.Map;
import java.util.Set;
import java.util.TreeSet;
import java.util.regex.Matcher;
import java.util.regex.Pattern;
import javax.lang.model.element.Element;
import javax.lang.model.element.ElementKind;
import javax.lang.model.element.ExecutableElement;
import javax.lang.model.element.TypeElement;
import javax.tools.JavaCompiler;
import javax.tools.StandardJavaFileManager;
import javax.tools.ToolProvider;

/** What of LANGUAGE.md can be looked at by a program: the face, the library, the sizes, and that no call makes objects. */
public final class LanguageTest {
    private static final String SOURCE = "src/main/java/WaterPatience.java";
    private static final Set<String> LIBRARY = Set.of("System.arraycopy", "Arrays.fill", "Math.min", "Math.max",
            "String.charAt", "String.length");
    private static final int LINES_MOST = 60;
    private static final int DEEP_MOST = 8;
    private static final int FIELDS_MOST = 20;
    private static final int CLASSES_MOST = 12;

    private static int wrong;

    public static void main(String[] args) throws Exception {
        face();
        source();
        noObjects();
        System.out.println(wrong == 0 ? "the class keeps to the rules that were looked at" : wrong + " breaches");
        if (wrong != 0) {
            System.exit(1);
        }
    }

    private static void breach(String what) {
        wrong++;
        System.out.println(what);
    }

    /** The class has the document's face, and shows nothing else. */
    private static void face() throws Exception {
        Set<String> want = new TreeSet<>();
        String doc = Files.readString(Path.of("../shared/DOC.md"));
        String block = doc.substring(doc.indexOf("```java"), doc.indexOf("```", doc.indexOf("```java") + 7));
        Matcher m = Pattern.compile("public (\\w+) (\\w+)\\(([^)]*)\\);").matcher(block);
        while (m.find()) {
            want.add(m.group(1) + " " + m.group(2) + "(" + m.group(3).replaceAll("(\\w+) \\w+", "$1") + ")");
        }
        Set<String> got = new TreeSet<>();
        Set<String> names = new HashSet<>();
        for (Method method : WaterPatience.class.getDeclaredMethods()) {
            if (Modifier.isPrivate(method.getModifiers())) {
                continue;
            }
            StringBuilder row = new StringBuilder();
            for (Class<?> type : method.getParameterTypes()) {
                row.append(row.length() > 0 ? ", " : "").append(type.getName());
            }
            got.add(method.getReturnType().getName() + " " + method.getName() + "(" + row + ")");
            names.add(method.getName());
        }
        if (!want.equals(got) || want.size() < 50) {
            breach("the face is " + got + ", not " + want);
        }
        for (Field field : WaterPatience.class.getDeclaredFields()) {
            if (!Modifier.isPrivate(field.getModifiers()) && !field.getName().equals("NONE")) {
                breach("a field is seen: " + field.getName());
            }
        }
        privates(WaterPatience.class, names);
        for (Class<?> inside : WaterPatience.class.getDeclaredClasses()) {
            privates(inside, names);
            if (!Modifier.isStatic(inside.getModifiers()) || Modifier.isPublic(inside.getModifiers())) {
                breach(inside + " is not static, or is seen");
            }
        }
    }

    private static void privates(Class<?> type, Set<String> names) {
        for (Method method : type.getDeclaredMethods()) {
            boolean shown = type == WaterPatience.class && !Modifier.isPrivate(method.getModifiers());
            if (!shown && names.contains(method.getName())) {
                breach("a method inside bears the name of a public one: " + method);
            }
        }
        int fields = 0;
        for (Field field : type.getDeclaredFields()) {
            boolean isStatic = Modifier.isStatic(field.getModifiers());
            fields += isStatic ? 0 : 1;
            boolean plain = field.getType().isPrimitive() || field.getType() == String.class;
            if (isStatic && !(Modifier.isFinal(field.getModifiers()) && plain)) {
                breach("a static field is no plain constant: " + field);
            }
        }
        if (fields > FIELDS_MOST) {
            breach(type + " has " + fields + " fields");
        }
    }

    private static void source() throws Exception {
        JavaCompiler compiler = ToolProvider.getSystemJavaCompiler();
        try (StandardJavaFileManager files = compiler.getStandardFileManager(null, null, null)) {
            JavacTask task = (JavacTask) compiler.getTask(null, files, null, null, null,
                    files.getJavaFileObjects(new File(SOURCE)));
            CompilationUnitTree unit = task.parse().iterator().next();
            task.analyze();
            Looker looker = new Looker(Trees.instance(task), unit);
            looker.scan(unit, null);
            if (looker.classes > CLASSES_MOST) {
                breach("there are " + looker.classes + " classes");
            }
            for (ExecutableElement method : looker.calls.keySet()) {
                int deep = looker.deep(method, new HashSet<>());
                if (method.getModifiers().contains(javax.lang.model.element.Modifier.PUBLIC) && deep > DEEP_MOST) {
                    breach(method + " calls " + deep + " deep");
                }
            }
        }
    }

    /** Looks at every piece of the source. */
    private static final class Looker extends TreePathScanner<Void, Void> {
        private final Trees trees;
        private final CompilationUnitTree unit;
        private final Map<ExecutableElement, Set<ExecutableElement>> calls = new HashMap<>();
        private final Map<ExecutableElement, Integer> depths = new HashMap<>();
        private int classes;

        Looker(Trees trees, CompilationUnitTree unit) {
            this.trees = trees;
            this.unit = unit;
        }

        private void say(String what, Tree tree) {
            long line = unit.getLineMap().getLineNumber(trees.getSourcePositions().getStartPosition(unit, tree));
            breach("line " + line + ": " + what);
        }

        private MethodTree method() {
            for (TreePath path = getCurrentPath(); path != null; path = path.getParentPath()) {
                if (path.getLeaf() instanceof MethodTree method) {
                    return method;
                }
            }
            return null;
        }

        private boolean inMethod() {
            MethodTree method = method();
            return method != null && method.getReturnType() != null;
        }

        int deep(ExecutableElement method, Set<ExecutableElement> open) {
            if (depths.containsKey(method)) {
                return depths.get(method);
            }
            int deepest = 0;
            open.add(method);
            for (ExecutableElement callee : calls.getOrDefault(method, Set.of())) {
                if (callee != method && open.contains(callee)) {
                    breach("methods that call one another: " + method + ", " + callee);
                } else if (callee != method) {
                    deepest = Math.max(deepest, deep(callee, open));
                }
            }
            open.remove(method);
            depths.put(method, deepest + 1);
            return deepest + 1;
        }

        @Override
        public Void visitClass(ClassTree tree, Void none) {
            classes++;
            if (method() != null) {
                say("a class within a method", tree);
            }
            return super.visitClass(tree, none);
        }

        @Override
        public Void visitMethod(MethodTree tree, Void none) {
            long from = unit.getLineMap().getLineNumber(trees.getSourcePositions().getStartPosition(unit, tree));
            long to = unit.getLineMap().getLineNumber(trees.getSourcePositions().getEndPosition(unit, tree));
            if (to - from + 1 > LINES_MOST) {
                say("a long method", tree);
            }
            if (tree.getParameters().size() > 7) {
                say("more than seven parameters", tree);
            }
            calls.putIfAbsent((ExecutableElement) trees.getElement(getCurrentPath()), new HashSet<>());
            return super.visitMethod(tree, none);
        }

        @Override
        public Void visitMethodInvocation(MethodInvocationTree tree, Void none) {
            ExecutableElement callee = (ExecutableElement) trees.getElement(new TreePath(getCurrentPath(),
                    tree.getMethodSelect()));
            TypeElement owner = (TypeElement) callee.getEnclosingElement();
            boolean own = owner.getQualifiedName().toString().startsWith("WaterPatience");
            String name = owner.getSimpleName() + "." + callee.getSimpleName();
            if (!own && callee.getKind() == ElementKind.METHOD && !LIBRARY.contains(name)) {
                say("a call of " + name, tree);
            }
            if (own && method() != null) {
                TreePath path = getCurrentPath();
                while (!(path.getLeaf() instanceof MethodTree)) {
                    path = path.getParentPath();
                }
                calls.computeIfAbsent((ExecutableElement) trees.getElement(path), k -> new HashSet<>()).add(callee);
            }
            return super.visitMethodInvocation(tree, none);
        }

        @Override
        public Void visitNewClass(NewClassTree tree, Void none) {
            if (inMethod() || tree.getClassBody() != null) {
                say("an object is made by a call", tree);
            }
            return super.visitNewClass(tree, none);
        }

        @Override
        public Void visitNewArray(NewArrayTree tree, Void none) {
            if (inMethod()) {
                say("a row is made by a call", tree);
            }
            return super.visitNewArray(tree, none);
        }

        @Override
        public Void visitBinary(BinaryTree tree, Void none) {
            String type = trees.getTypeMirror(getCurrentPath()).toString();
            if (tree.getKind() == Tree.Kind.PLUS && type.equals("java.lang.String")) {
                say("texts joined by +", tree);
            }
            return super.visitBinary(tree, none);
        }

        @Override
        public Void visitTypeCast(TypeCastTree tree, Void none) {
            if (!trees.getTypeMirror(getCurrentPath()).getKind().isPrimitive()) {
                say("a cast of an object", tree);
            }
            return super.visitTypeCast(tree, none);
        }

        @Override
        public Void visitVariable(VariableTree tree, Void none) {
            Element element = trees.getElement(getCurrentPath());
            String type = element.asType().toString();
            if (type.contains("java.") && !type.equals("java.lang.String")) {
                say("a variable of " + type, tree);
            }
            return super.visitVariable(tree, none);
        }

        @Override
        public Void visitThrow(ThrowTree tree, Void none) {
            say("throw", tree);
            return null;
        }

        @Override
        public Void visitTry(TryTree tree, Void none) {
            say("try", tree);
            return null;
        }

        @Override
        public Void visitSynchronized(SynchronizedTree tree, Void none) {
            say("synchronized", tree);
            return null;
        }

        @Override
        public Void visitAssert(AssertTree tree, Void none) {
            say("assert", tree);
            return null;
        }

        @Override
        public Void visitLambdaExpression(LambdaExpressionTree tree, Void none) {
            say("a lambda", tree);
            return null;
        }

        @Override
        public Void visitMemberReference(MemberReferenceTree tree, Void none) {
            say("a method reference", tree);
            return null;
        }
    }

    /** Dear calls over and over: what a thread has taken of the heap must not grow by it. */
    private static void noObjects() {
        com.sun.management.ThreadMXBean heap =
                (com.sun.management.ThreadMXBean) java.lang.management.ManagementFactory.getThreadMXBean();
        WaterPatience x = Due.with(Due.VALLEY, "loop 99; any; deal; run; when stuck; end; day 1; end;");
        x.tray(0, 3, 60);
        long before = heap.getThreadAllocatedBytes(Thread.currentThread().getId());
        for (int i = 0; i < 200; i++) {
            x.tray(1, i % 4, i % 60);
            x.mean(i, 20);
            x.bestSuit(i, 50);
            x.like(0, i, 50);
            x.game(3, 3);
            x.first(3, 3);
            x.cheatAt(i % 2, 0);
            x.mark();
            x.shuffle(i);
            x.live(i);
            x.back();
            x.feed(0x64656164, i, i, i, i);
            x.seasons(20);
        }
        long grown = heap.getThreadAllocatedBytes(Thread.currentThread().getId()) - before;
        if (grown > 20000) {
            breach("calls took " + grown + " bytes of the heap");
        }
    }
}
