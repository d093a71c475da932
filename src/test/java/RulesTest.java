import com.sun.source.tree.AssertTree;
import com.sun.source.tree.BinaryTree;
import com.sun.source.tree.CatchTree;
import com.sun.source.tree.ClassTree;
import com.sun.source.tree.CompilationUnitTree;
import com.sun.source.tree.ExpressionTree;
import com.sun.source.tree.ImportTree;
import com.sun.source.tree.LambdaExpressionTree;
import com.sun.source.tree.MemberReferenceTree;
import com.sun.source.tree.MethodInvocationTree;
import com.sun.source.tree.MethodTree;
import com.sun.source.tree.NewClassTree;
import com.sun.source.tree.SynchronizedTree;
import com.sun.source.tree.ThrowTree;
import com.sun.source.tree.Tree;
import com.sun.source.tree.TryTree;
import com.sun.source.tree.VariableTree;
import com.sun.source.util.JavacTask;
import com.sun.source.util.TreePath;
import com.sun.source.util.TreePathScanner;
import com.sun.source.util.Trees;
import java.lang.reflect.Constructor;
import java.lang.reflect.Field;
import java.lang.reflect.Method;
import java.lang.reflect.Modifier;
import java.nio.file.Files;
import java.nio.file.Path;
import java.util.List;
import java.util.Map;
import java.util.Set;
import java.util.TreeMap;
import java.util.TreeSet;
import java.util.regex.Matcher;
import java.util.regex.Pattern;
import javax.lang.model.element.Element;
import javax.lang.model.element.ElementKind;
import javax.lang.model.element.ExecutableElement;
import javax.lang.model.element.VariableElement;
import javax.lang.model.type.TypeMirror;
import javax.tools.JavaCompiler;
import javax.tools.StandardJavaFileManager;
import javax.tools.ToolProvider;

/** The face that the document tells, and what of LANGUAGE.md can be seen in the source. */
public final class RulesTest {
    private static final Check CHECK = new Check();
    private static final Path SOURCE = Path.of("src/main/java/PondStair.java");
    private static final Set<String> LIBRARY = Set.of("Arrays.fill", "System.arraycopy", "Math.max", "Math.min",
        "Integer.bitCount", "String.length", "String.charAt");
    private static final Set<String> STATIC_TYPES = Set.of("int", "long", "boolean", "char", "java.lang.String", "int[]",
        "long[]", "char[]", "byte[]");

    private RulesTest() {
    }

    public static void main(String[] args) throws Exception {
        face();
        members();
        source();
        CHECK.close();
    }

    /** Every public member is one of the document's, and all of these are there. */
    private static void face() throws Exception {
        String doc = Files.readString(Path.of("../shared/DOC.md"));
        Set<String> due = new TreeSet<>();
        Matcher m = Pattern.compile("    public (\\w+) (\\w+)\\((.*)\\);").matcher(doc);
        while (m.find()) {
            String types = m.group(3).replaceAll(" \\w+(,|$)", "$1").replace(" ", "");
            due.add(m.group(1) + " " + m.group(2) + "(" + types + ")");
        }
        Set<String> is = new TreeSet<>();
        for (Method method : PondStair.class.getDeclaredMethods()) {
            if (!Modifier.isPrivate(method.getModifiers())) {
                StringBuilder types = new StringBuilder();
                for (Class<?> type : method.getParameterTypes()) {
                    types.append(types.length() > 0 ? "," : "").append(type.getSimpleName());
                }
                is.add(method.getReturnType().getSimpleName() + " " + method.getName() + "(" + types + ")");
            }
        }
        CHECK.isTrue("43 methods and more are told", due.size() >= 43);
        CHECK.isTrue("the methods are " + due + ", not " + is, due.equals(is));
        CHECK.isTrue("public and final", (PondStair.class.getModifiers() & (Modifier.PUBLIC | Modifier.FINAL)) == 17);
        Constructor<?>[] constructors = PondStair.class.getDeclaredConstructors();
        CHECK.isTrue("one public constructor", constructors.length == 1 && constructors[0].getParameterCount() == 0
            && Modifier.isPublic(constructors[0].getModifiers()));
    }

    private static void members() {
        Set<String> names = new TreeSet<>();
        for (Method method : PondStair.class.getDeclaredMethods()) {
            if (Modifier.isPublic(method.getModifiers())) {
                names.add(method.getName());
            }
        }
        for (Field field : PondStair.class.getDeclaredFields()) {
            boolean isPublic = Modifier.isPublic(field.getModifiers());
            CHECK.isTrue("field " + field.getName(), isPublic ? field.getName().equals("NONE") : Modifier.isPrivate(field.getModifiers()));
        }
        for (Class<?> inside : PondStair.class.getDeclaredClasses()) {
            CHECK.isTrue(inside + " is static", Modifier.isStatic(inside.getModifiers()));
            for (Method method : inside.getDeclaredMethods()) {
                CHECK.isTrue(inside.getSimpleName() + "." + method.getName() + " has a name of its own", !names.contains(method.getName()));
            }
        }
        CHECK.isTrue("at most 12 classes", PondStair.class.getDeclaredClasses().length < 12);
    }

    private static void source() throws Exception {
        JavaCompiler compiler = ToolProvider.getSystemJavaCompiler();
        try (StandardJavaFileManager files = compiler.getStandardFileManager(null, null, null)) {
            JavacTask task = (JavacTask) compiler.getTask(null, files, null, List.of("-proc:none"), null,
                files.getJavaFileObjects(SOURCE));
            Iterable<? extends CompilationUnitTree> units = task.parse();
            task.analyze();
            Rules rules = new Rules(Trees.instance(task));
            for (CompilationUnitTree unit : units) {
                rules.scan(unit, null);
            }
            rules.depths();
        }
    }

    private static final class Rules extends TreePathScanner<Void, Void> {
        private final Trees trees;
        private final Map<String, Set<String>> calls = new TreeMap<>();
        private String method = "";

        Rules(Trees trees) {
            this.trees = trees;
        }

        private void refuse(String what, Tree node) {
            CHECK.isTrue(what + " at " + line(trees.getSourcePositions().getStartPosition(getCurrentPath().getCompilationUnit(), node)), false);
        }

        private long line(long position) {
            return getCurrentPath().getCompilationUnit().getLineMap().getLineNumber(position);
        }

        private static String name(Element e) {
            return e.getEnclosingElement().getSimpleName() + "." + e.getSimpleName() + "/" + ((ExecutableElement) e).getParameters().size();
        }

        @Override
        public Void visitImport(ImportTree node, Void v) {
            CHECK.isTrue("import " + node, node.getQualifiedIdentifier().toString().equals("java.util.Arrays"));
            return super.visitImport(node, v);
        }

        @Override
        public Void visitClass(ClassTree node, Void v) {
            int fields = 0;
            for (Tree member : node.getMembers()) {
                if (member instanceof VariableTree field) {
                    fields += field.getModifiers().getFlags().contains(javax.lang.model.element.Modifier.STATIC) ? 0 : 1;
                } else if (!(member instanceof MethodTree) && !(member instanceof ClassTree)) {
                    refuse("a block", member);
                }
            }
            CHECK.isTrue(node.getSimpleName() + " has at most 20 fields", fields <= 20);
            Element around = trees.getElement(getCurrentPath()).getEnclosingElement();
            CHECK.isTrue(node.getSimpleName() + " is no local class", around.getKind() != ElementKind.METHOD);
            return super.visitClass(node, v);
        }

        @Override
        public Void visitMethod(MethodTree node, Void v) {
            method = name(trees.getElement(getCurrentPath()));
            calls.put(method, new TreeSet<>());
            CompilationUnitTree unit = getCurrentPath().getCompilationUnit();
            long start = trees.getSourcePositions().getStartPosition(unit, node);
            long end = trees.getSourcePositions().getEndPosition(unit, node);
            CHECK.isTrue(method + " is short", end < 0 || line(end) - line(start) < 60);
            CHECK.isTrue(method + " takes at most 7", node.getParameters().size() <= 7);
            return super.visitMethod(node, v);
        }

        @Override
        public Void visitVariable(VariableTree node, Void v) {
            Element e = trees.getElement(getCurrentPath());
            Set<javax.lang.model.element.Modifier> flags = node.getModifiers().getFlags();
            if (e.getKind() == ElementKind.FIELD && flags.contains(javax.lang.model.element.Modifier.STATIC)) {
                TypeMirror type = e.asType();
                CHECK.isTrue("static " + e, flags.contains(javax.lang.model.element.Modifier.FINAL) && STATIC_TYPES.contains(type.toString()));
            }
            return super.visitVariable(node, v);
        }

        @Override
        public Void visitMethodInvocation(MethodInvocationTree node, Void v) {
            Element e = trees.getElement(new TreePath(getCurrentPath(), node.getMethodSelect()));
            String owner = e.getEnclosingElement().toString();
            if (owner.startsWith("PondStair")) {
                calls.get(method).add(name(e));
            } else if (!e.getSimpleName().contentEquals("<init>")) {
                CHECK.isTrue("library: " + e, LIBRARY.contains(e.getEnclosingElement().getSimpleName() + "." + e.getSimpleName()));
            }
            return super.visitMethodInvocation(node, v);
        }

        @Override
        public Void visitNewClass(NewClassTree node, Void v) {
            if (node.getClassBody() != null) {
                refuse("an anonymous class", node);
            }
            for (ExpressionTree argument : isMaking() ? node.getArguments() : List.<ExpressionTree>of()) {
                Element e = trees.getElement(new TreePath(getCurrentPath(), argument));
                if (e != null && e.getKind() == ElementKind.FIELD && ((VariableElement) e).getConstantValue() == null
                        || argument.toString().equals("this")) {
                    refuse("a part of an object that is not made yet", node);
                }
            }
            return super.visitNewClass(node, v);
        }

        /** In a constructor, or where a field gets its first value. */
        private boolean isMaking() {
            for (TreePath p = getCurrentPath(); p != null; p = p.getParentPath()) {
                if (p.getLeaf() instanceof MethodTree m) {
                    return m.getName().contentEquals("<init>");
                }
            }
            return true;
        }

        @Override
        public Void visitBinary(BinaryTree node, Void v) {
            if (String.valueOf(trees.getTypeMirror(getCurrentPath())).equals("java.lang.String")) {
                refuse("texts joined by +", node);
            }
            return super.visitBinary(node, v);
        }

        @Override
        public Void visitThrow(ThrowTree node, Void v) {
            refuse("throw", node);
            return null;
        }

        @Override
        public Void visitTry(TryTree node, Void v) {
            refuse("try", node);
            return null;
        }

        @Override
        public Void visitCatch(CatchTree node, Void v) {
            refuse("catch", node);
            return null;
        }

        @Override
        public Void visitSynchronized(SynchronizedTree node, Void v) {
            refuse("synchronized", node);
            return null;
        }

        @Override
        public Void visitAssert(AssertTree node, Void v) {
            refuse("assert", node);
            return null;
        }

        @Override
        public Void visitLambdaExpression(LambdaExpressionTree node, Void v) {
            refuse("a lambda", node);
            return null;
        }

        @Override
        public Void visitMemberReference(MemberReferenceTree node, Void v) {
            refuse("a method reference", node);
            return null;
        }

        void depths() {
            for (String start : calls.keySet()) {
                int depth = depth(start, 1);
                CHECK.isTrue(start + " goes at most eight deep: " + depth, depth <= 8);
            }
        }

        private int depth(String at, int so) {
            int deepest = so;
            for (String called : so > 20 ? Set.<String>of() : calls.getOrDefault(at, Set.of())) {
                deepest = Math.max(deepest, depth(called, so + 1));
            }
            return deepest;
        }
    }
}
