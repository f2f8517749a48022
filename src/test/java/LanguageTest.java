import com.sun.source.tree.*;
import com.sun.source.util.JavacTask;
import com.sun.source.util.TreePath;
import com.sun.source.util.TreePathScanner;
import com.sun.source.util.Trees;
import java.io.File;
import java.nio.file.Files;
import java.nio.file.Path;
import java.util.HashMap;
import java.util.HashSet;
import java.util.List;
import java.util.Map;
import java.util.Set;
import java.util.regex.Matcher;
import java.util.regex.Pattern;
import javax.lang.model.element.Element;
import javax.lang.model.element.ExecutableElement;
import javax.lang.model.element.Modifier;
import javax.lang.model.element.TypeElement;
import javax.lang.model.element.VariableElement;
import javax.tools.JavaCompiler;
import javax.tools.StandardJavaFileManager;
import javax.tools.ToolProvider;

/** The rules of ../shared/LANGUAGE.md that can be read off the source, and the face that the document tells. */
public final class LanguageTest {
    private static final Path SOURCE = Path.of("src/main/java/UnlikeRoofs.java");
    private static final Path DOCUMENT = Path.of("../shared/DOC.md");
    private static final Set<String> LIBRARY = Set.of("java.lang.Integer.bitCount", "java.lang.Math.min",
        "java.lang.Math.abs", "java.lang.System.arraycopy", "java.lang.String.length", "java.lang.String.charAt", "java.lang.Object.<init>");
    private static final Set<Tree.Kind> FORBIDDEN = Set.of(Tree.Kind.THROW, Tree.Kind.TRY, Tree.Kind.CATCH,
        Tree.Kind.SYNCHRONIZED, Tree.Kind.ASSERT, Tree.Kind.LAMBDA_EXPRESSION, Tree.Kind.MEMBER_REFERENCE,
        Tree.Kind.SWITCH_EXPRESSION, Tree.Kind.YIELD, Tree.Kind.IMPORT, Tree.Kind.PACKAGE, Tree.Kind.INSTANCE_OF);

    private final Map<Element, Set<Element>> calls = new HashMap<>();
    private CompilationUnitTree unit;
    private Trees trees;
    private int classes = 0;
    private final Set<VariableElement> fields = new HashSet<>();
    private Element outerClass;

    public static void main(String[] args) throws Exception {
        new LanguageTest().run();
        Due.finish();
    }

    private static void rule(int number, String what, boolean holds) {
        Due.is("rule " + number + ": " + what, holds ? 1 : 0, 1);
    }

    private void run() throws Exception {
        for (char c : Files.readString(SOURCE).toCharArray()) {
            rule(4, "a sign " + (int) c, c < 128);
        }
        JavaCompiler compiler = ToolProvider.getSystemJavaCompiler();
        StandardJavaFileManager files = compiler.getStandardFileManager(null, null, null);
        JavacTask task = (JavacTask) compiler.getTask(null, files, null, List.of("-proc:none"), null,
            files.getJavaFileObjects(new File(SOURCE.toString())));
        unit = task.parse().iterator().next();
        task.analyze();
        trees = Trees.instance(task);
        new Rules().scan(unit, null);
        rule(11, "some twelve classes, not " + classes, classes <= 12);
        recursion();
        face();
        constants();
    }

    private static boolean isOuter(Element element) {
        return element.getKind().isClass() && !element.getEnclosingElement().getKind().isClass();
    }

    private final class Rules extends TreePathScanner<Void, Void> {
        @Override
        public Void scan(Tree tree, Void none) {
            if (tree != null) {
                rule(6, "no " + tree.getKind() + " at " + tree, !FORBIDDEN.contains(tree.getKind()));
            }
            return super.scan(tree, none);
        }

        @Override
        public Void visitClass(ClassTree tree, Void none) {
            classes++;
            Element element = trees.getElement(getCurrentPath());
            Set<Modifier> flags = element.getModifiers();
            boolean outer = isOuter(element);
            if (outer) {
                rule(1, "one public class, not " + tree.getSimpleName(), outerClass == null
                    && tree.getSimpleName().contentEquals("UnlikeRoofs"));
                outerClass = element;
            }
            rule(2, tree.getSimpleName() + " is static and not open", outer
                || flags.contains(Modifier.STATIC) && !flags.contains(Modifier.PUBLIC)
                && !flags.contains(Modifier.PROTECTED));
            rule(2, tree.getSimpleName() + " is no local class", outer
                || element.getEnclosingElement().getKind().isClass());
            rule(11, tree.getSimpleName() + " has few fields", element.getEnclosedElements().stream()
                .filter(e -> e.getKind().isField() && !e.getModifiers().contains(Modifier.STATIC)).count() <= 20);
            return super.visitClass(tree, none);
        }

        @Override
        public Void visitMethod(MethodTree tree, Void none) {
            String name = tree.getName().toString();
            rule(11, name + " takes few parameters", tree.getParameters().size() <= 7);
            rule(11, name + " is short", lines(tree) <= 60);
            calls.put(trees.getElement(getCurrentPath()), new HashSet<>());
            return super.visitMethod(tree, none);
        }

        @Override
        public Void visitVariable(VariableTree tree, Void none) {
            Element element = trees.getElement(getCurrentPath());
            Set<Modifier> flags = element.getModifiers();
            if (element.getKind().isField() && flags.contains(Modifier.STATIC)) {
                boolean constant = ((VariableElement) element).getConstantValue() != null;
                boolean row = tree.getInitializer() instanceof NewArrayTree array && array.getInitializers() != null;
                rule(5, tree.getName() + " is final and a constant or a row",
                    flags.contains(Modifier.FINAL) && (constant || row));
            }
            if (element.getKind().isField() && isOuter(element.getEnclosingElement())) {
                fields.add((VariableElement) element);
            }
            return super.visitVariable(tree, none);
        }

        @Override
        public Void visitBlock(BlockTree tree, Void none) {
            rule(5, "no initialiser block", !(getCurrentPath().getParentPath().getLeaf() instanceof ClassTree));
            return super.visitBlock(tree, none);
        }

        @Override
        public Void visitBinary(BinaryTree tree, Void none) {
            boolean text = typeOf(tree.getLeftOperand()).equals("java.lang.String")
                || typeOf(tree.getRightOperand()).equals("java.lang.String");
            rule(10, "no text joined or compared at " + tree, !text);
            return super.visitBinary(tree, none);
        }

        @Override
        public Void visitMethodInvocation(MethodInvocationTree tree, Void none) {
            noteCall(trees.getElement(new TreePath(getCurrentPath(), tree.getMethodSelect())));
            return super.visitMethodInvocation(tree, none);
        }

        @Override
        public Void visitNewClass(NewClassTree tree, Void none) {
            madeOnlyAtFirst(tree);
            return super.visitNewClass(tree, none);
        }

        @Override
        public Void visitNewArray(NewArrayTree tree, Void none) {
            madeOnlyAtFirst(tree);
            return super.visitNewArray(tree, none);
        }

        /** The room of a run is small: so no call makes anything, only constructors and fields do. */
        private void madeOnlyAtFirst(Tree tree) {
            MethodTree method = enclosingMethod();
            rule(12, "made in no call: " + tree, method == null || method.getReturnType() == null);
        }

        private void noteCall(Element called) {
            String owner = ((TypeElement) called.getEnclosingElement()).getQualifiedName().toString();
            boolean own = owner.startsWith("UnlikeRoofs");
            rule(4, "the library has " + owner + "." + called.getSimpleName(),
                own || LIBRARY.contains(owner + "." + called.getSimpleName()));
            MethodTree method = enclosingMethod();
            if (own && method != null) {
                calls.get(trees.getElement(trees.getPath(unit, method))).add(called);
            }
        }

        private MethodTree enclosingMethod() {
            for (TreePath path = getCurrentPath(); path != null; path = path.getParentPath()) {
                if (path.getLeaf() instanceof MethodTree method) {
                    return method;
                }
            }
            return null;
        }

        private String typeOf(Tree tree) {
            return String.valueOf(trees.getTypeMirror(new TreePath(getCurrentPath(), tree)));
        }

        private long lines(Tree tree) {
            LineMap map = unit.getLineMap();
            long first = map.getLineNumber(trees.getSourcePositions().getStartPosition(unit, tree));
            return map.getLineNumber(trees.getSourcePositions().getEndPosition(unit, tree)) - first + 1;
        }
    }

    /** Rule 8: who calls itself is private and static; rule 11: other calls go at most eight deep. */
    private void recursion() {
        for (Element method : calls.keySet()) {
            boolean calm = !reaches(method, method, new HashSet<>());
            Set<Modifier> flags = method.getModifiers();
            rule(8, method + " calls itself", calm
                || calls.get(method).contains(method) && flags.contains(Modifier.PRIVATE)
                && flags.contains(Modifier.STATIC));
            rule(11, method + " goes deep", depth(method) <= 8);
        }
    }

    private boolean reaches(Element from, Element goal, Set<Element> met) {
        for (Element next : calls.getOrDefault(from, Set.of())) {
            if (next == goal || met.add(next) && reaches(next, goal, met)) {
                return true;
            }
        }
        return false;
    }

    private int depth(Element method) {
        int most = 0;
        for (Element next : calls.getOrDefault(method, Set.of())) {
            most = next == method ? most : Math.max(most, depth(next));
        }
        return most + 1;
    }

    /** Rule 1: each member of the document's face is there, and nothing else is open. */
    private void face() throws Exception {
        String text = Files.readString(DOCUMENT);
        int start = text.indexOf("```java");
        String told = text.substring(start, text.indexOf("```", start + 3));
        Set<String> due = new HashSet<>();
        Matcher m = Pattern.compile("public (int|long) (\\w+)\\(([^)]*)\\);").matcher(told);
        while (m.find()) {
            due.add(m.group(1) + " " + m.group(2) + "(" + m.group(3).replaceAll(" \\w+(,|$)", "$1") + ")");
        }
        Due.is("methods that the document tells", due.size(), 28);
        Set<String> names = new HashSet<>();
        for (String method : due) {
            names.add(method.substring(method.indexOf(' ') + 1, method.indexOf('(')));
        }
        for (Element method : calls.keySet()) {
            boolean outer = method.getEnclosingElement().getSimpleName().contentEquals("UnlikeRoofs");
            String sign = ((ExecutableElement) method).getReturnType() + " " + method.toString().replace(",", ", ");
            boolean open = outer && method.getModifiers().contains(Modifier.PUBLIC);
            boolean made = method.getSimpleName().contentEquals("<init>");
            if (outer && open && !made) {
                rule(1, sign + " is of the face", due.remove(sign));
            } else {
                rule(1, sign + " is private in the face", !outer || made
                    || method.getModifiers().contains(Modifier.PRIVATE));
                rule(1, sign + " bears no name of the face", !names.contains(method.getSimpleName().toString()));
            }
        }
        rule(1, "missing " + due, due.isEmpty());
    }

    /** Rule 1: the class, its constructor and its constants as the document tells them, and no other open field. */
    private void constants() throws Exception {
        rule(1, "public and final", outerClass.getModifiers().equals(Set.of(Modifier.PUBLIC, Modifier.FINAL)));
        List<Element> made = outerClass.getEnclosedElements().stream()
            .filter(e -> e.getSimpleName().contentEquals("<init>")).map(e -> (Element) e).toList();
        rule(1, "one public constructor, without arguments", made.size() == 1
            && made.get(0).getModifiers().contains(Modifier.PUBLIC) && made.get(0).toString().endsWith("()"));
        Set<String> due = new HashSet<>();
        Matcher lines = Pattern.compile("public static final int ([^;]*);").matcher(Files.readString(DOCUMENT));
        while (lines.find()) {
            due.addAll(List.of(lines.group(1).split(", ")));
        }
        Due.is("constants that the document tells", due.size(), 5);
        for (VariableElement field : fields) {
            boolean open = field.getModifiers().equals(Set.of(Modifier.PUBLIC, Modifier.STATIC, Modifier.FINAL));
            String told = field.asType() + " " + field + " = " + field.getConstantValue();
            rule(1, told + " is private or of the face", open && due.remove(told.replaceFirst("^int ", ""))
                || field.getModifiers().contains(Modifier.PRIVATE));
        }
        rule(1, "missing " + due, due.isEmpty());
    }
}
