import com.sun.source.tree.AssertTree;
import com.sun.source.tree.BinaryTree;
import com.sun.source.tree.ClassTree;
import com.sun.source.tree.CompilationUnitTree;
import com.sun.source.tree.CompoundAssignmentTree;
import com.sun.source.tree.ImportTree;
import com.sun.source.tree.LambdaExpressionTree;
import com.sun.source.tree.MemberReferenceTree;
import com.sun.source.tree.MethodInvocationTree;
import com.sun.source.tree.MethodTree;
import com.sun.source.tree.NewArrayTree;
import com.sun.source.tree.NewClassTree;
import com.sun.source.tree.SynchronizedTree;
import com.sun.source.tree.ThrowTree;
import com.sun.source.tree.Tree;
import com.sun.source.tree.TryTree;
import com.sun.source.tree.VariableTree;
import com.sun.source.util.JavacTask;
import com.sun.source.util.TreePathScanner;
import com.sun.source.util.Trees;
import java.nio.file.Files;
import java.nio.file.Path;
import java.util.ArrayList;
import java.util.HashMap;
import java.util.HashSet;
import java.util.LinkedHashSet;
import java.util.List;
import java.util.Map;
import java.util.Set;
import java.util.TreeSet;
import java.util.regex.Matcher;
import java.util.regex.Pattern;
import javax.lang.model.element.Element;
import javax.lang.model.element.Modifier;
import javax.tools.JavaCompiler;
import javax.tools.StandardJavaFileManager;
import javax.tools.ToolProvider;

/** That the program keeps to the rules of ../shared/LANGUAGE.md that a reader of its tree can see. */
public final class LanguageTest extends TreePathScanner<Void, Void> {
    private static final Path PROGRAM = Path.of("src/main/java/PaletteTubes.java");
    private static final Path DOC = Path.of("../shared/DOC.md");
    private static final Set<String> LIBRARY = Set.of("Math.min", "Math.max", "Integer.compare", "Integer.bitCount", "Arrays.fill",
        "System.arraycopy", "String.length", "String.charAt", "StringBuilder.append", "StringBuilder.charAt",
        "StringBuilder.length", "StringBuilder.setLength");
    private static final Set<String> NEW = Set.of("NoSuchElementException", "IllegalArgumentException", "StringBuilder");

    private final CompilationUnitTree unit;
    private final Trees trees;
    private final Map<String, Set<String>> calls = new HashMap<>();
    private final Set<String> face = new TreeSet<>();
    private final Set<String> otherNames = new HashSet<>();
    private String method = "";
    private boolean inConstructor;
    private boolean inThrow;
    private int classes;

    private LanguageTest(CompilationUnitTree unit, Trees trees) {
        this.unit = unit;
        this.trees = trees;
    }

    public static void main(String[] args) throws Exception {
        JavaCompiler compiler = ToolProvider.getSystemJavaCompiler();
        try (StandardJavaFileManager files = compiler.getStandardFileManager(null, null, null)) {
            JavacTask task = (JavacTask) compiler.getTask(null, files, null, List.of("-proc:none"), null,
                files.getJavaFileObjects(PROGRAM));
            CompilationUnitTree unit = task.parse().iterator().next();
            task.analyze();
            LanguageTest test = new LanguageTest(unit, Trees.instance(task));
            test.scan(unit, null);
            test.summary();
        }
        Check.due("signs above 127", Files.readString(PROGRAM).chars().filter(c -> c > 127).count(), 0L);
        Check.end("LanguageTest");
    }

    private void summary() throws Exception {
        Check.due("the face", face, documentFace());
        Set<String> both = new TreeSet<>(otherNames);
        both.retainAll(new HashSet<>(face.stream().map(f -> f.replaceAll("\\(.*", "").replaceAll(".* ", "")).toList()));
        Check.due("names of the face elsewhere", both, Set.of());
        Check.due("at most 12 classes", classes <= 12, true);
        for (String from : calls.keySet()) {
            int deep = depth(from, new LinkedHashSet<>());
            if (deep > 8) {
                Check.due("calls from " + from + " go", deep, "at most 8 deep");
            }
        }
    }

    private static Set<String> documentFace() throws Exception {
        Set<String> names = new TreeSet<>();
        Matcher block = Pattern.compile("```java\n(.*?)```", Pattern.DOTALL).matcher(Files.readString(DOC));
        if (block.find()) {
            Matcher m = Pattern.compile("public (?!final class)(.*);").matcher(block.group(1));
            while (m.find()) {
                names.add(m.group(1).replaceAll(" = .*", ""));
            }
        }
        return names;
    }

    /** The most calls that stand open at once, when nothing calls itself again. */
    private int depth(String from, Set<String> open) {
        if (!open.add(from)) {
            return -1;
        }
        int most = 0;
        for (String to : calls.getOrDefault(from, Set.of())) {
            most = Math.max(most, depth(to, open));
        }
        open.remove(from);
        return most + 1;
    }

    private void wrong(String what, Tree tree) {
        long line = unit.getLineMap().getLineNumber(trees.getSourcePositions().getStartPosition(unit, tree));
        Check.due("line " + line + " of the program", what, "within the rules");
    }

    private static String withoutPackages(String text) {
        return text.replaceAll("[a-z]+(\\.[a-z]+)*\\.(?=[A-Z])", "");
    }

    @Override
    public Void visitImport(ImportTree tree, Void none) {
        if (!Set.of("java.util.Arrays", "java.util.NoSuchElementException").contains(tree.getQualifiedIdentifier().toString())) {
            wrong("import", tree);
        }
        return super.visitImport(tree, none);
    }

    @Override
    public Void visitClass(ClassTree tree, Void none) {
        classes++;
        boolean outer = tree.getSimpleName().contentEquals("PaletteTubes");
        Set<Modifier> flags = tree.getModifiers().getFlags();
        if (!flags.equals(outer ? Set.of(Modifier.PUBLIC, Modifier.FINAL) : Set.of(Modifier.PRIVATE, Modifier.STATIC, Modifier.FINAL))) {
            wrong("class " + flags, tree);
        }
        int fields = 0;
        for (Tree member : tree.getMembers()) {
            if (member instanceof VariableTree field) {
                Set<Modifier> modifiers = field.getModifiers().getFlags();
                boolean constant = modifiers.contains(Modifier.STATIC);
                fields += constant ? 0 : 1;
                if (constant && !(modifiers.contains(Modifier.FINAL) && Set.of("int", "long", "boolean", "char", "String")
                        .contains(field.getType().toString()))) {
                    wrong("static field", field);
                }
                if (outer && modifiers.contains(Modifier.PUBLIC)) {
                    face.add("static final " + field.getType() + " " + field.getName());
                } else if (outer && !modifiers.contains(Modifier.PRIVATE)) {
                    wrong("field that is seen", field);
                }
            } else if (!(member instanceof MethodTree) && !(member instanceof ClassTree)) {
                wrong("initialiser block", member);
            }
        }
        if (fields > 20) {
            wrong(fields + " fields", tree);
        }
        return super.visitClass(tree, none);
    }

    @Override
    public Void visitMethod(MethodTree tree, Void none) {
        Element element = trees.getElement(getCurrentPath());
        boolean outer = element.getEnclosingElement().getSimpleName().contentEquals("PaletteTubes");
        Set<Modifier> flags = tree.getModifiers().getFlags();
        inConstructor = tree.getReturnType() == null;
        if (outer && flags.contains(Modifier.PUBLIC)) {
            List<String> parameters = new ArrayList<>();
            tree.getParameters().forEach(p -> parameters.add(p.toString()));
            String head = inConstructor ? "PaletteTubes" : tree.getReturnType() + " " + tree.getName();
            String thrown = tree.getThrows().isEmpty() ? "" : " throws " + tree.getThrows().toString().replaceAll("[\\[\\]]", "").replace(",", ", ")
                .replaceAll(" +", " ");
            face.add(head + "(" + String.join(", ", parameters) + ")" + thrown);
        } else if (!inConstructor) {
            otherNames.add(tree.getName().toString());
            if (outer && !flags.contains(Modifier.PRIVATE)) {
                wrong("method that is seen", tree);
            }
        }
        if (Set.of("equals", "hashCode", "toString").contains(tree.getName().toString())) {
            wrong("method " + tree.getName(), tree);
        }
        if (tree.getParameters().size() > 7) {
            wrong("parameters", tree);
        }
        long from = trees.getSourcePositions().getStartPosition(unit, tree);
        long to = trees.getSourcePositions().getEndPosition(unit, tree);
        if (unit.getLineMap().getLineNumber(to) - unit.getLineMap().getLineNumber(from) > 60) {
            wrong("long method", tree);
        }
        method = element.getEnclosingElement() + "." + element;
        calls.putIfAbsent(method, new LinkedHashSet<>());
        return super.visitMethod(tree, none);
    }

    @Override
    public Void visitMethodInvocation(MethodInvocationTree tree, Void none) {
        called(trees.getElement(getCurrentPath()), tree);
        return super.visitMethodInvocation(tree, none);
    }

    private void called(Element element, Tree tree) {
        Element owner = element.getEnclosingElement();
        if (owner.toString().startsWith("PaletteTubes")) {
            calls.get(method).add(owner + "." + element);
            return;
        }
        String name = withoutPackages(owner.toString()).replace("AbstractString", "String") + "." + element.getSimpleName();
        if (!LIBRARY.contains(name) && !name.equals("Object.<init>")) {
            wrong(name, tree);
        }
    }

    @Override
    public Void visitNewClass(NewClassTree tree, Void none) {
        Element element = trees.getElement(getCurrentPath());
        Element owner = element.getEnclosingElement();
        if (owner.toString().startsWith("PaletteTubes")) {
            calls.get(method).add(owner + "." + element);
        } else if (!NEW.contains(withoutPackages(owner.toString()))) {
            wrong("new " + owner, tree);
        }
        if (!inConstructor && !inThrow) {
            wrong("an object made in a call", tree);
        }
        return super.visitNewClass(tree, none);
    }

    @Override
    public Void visitNewArray(NewArrayTree tree, Void none) {
        if (!inConstructor) {
            wrong("an array made in a call", tree);
        }
        return super.visitNewArray(tree, none);
    }

    @Override
    public Void visitThrow(ThrowTree tree, Void none) {
        if (inConstructor || !(tree.getExpression() instanceof NewClassTree)) {
            wrong("throw", tree);
        }
        inThrow = true;
        super.visitThrow(tree, none);
        inThrow = false;
        return null;
    }

    @Override
    public Void visitBinary(BinaryTree tree, Void none) {
        if (trees.getTypeMirror(getCurrentPath()).toString().endsWith("String")) {
            wrong("texts joined by +", tree);
        }
        return super.visitBinary(tree, none);
    }

    @Override
    public Void visitCompoundAssignment(CompoundAssignmentTree tree, Void none) {
        if (trees.getTypeMirror(getCurrentPath()).toString().endsWith("String")) {
            wrong("texts joined by +=", tree);
        }
        return super.visitCompoundAssignment(tree, none);
    }

    @Override
    public Void visitLambdaExpression(LambdaExpressionTree tree, Void none) {
        wrong("lambda", tree);
        return null;
    }

    @Override
    public Void visitMemberReference(MemberReferenceTree tree, Void none) {
        wrong("method reference", tree);
        return null;
    }

    @Override
    public Void visitTry(TryTree tree, Void none) {
        wrong("try", tree);
        return super.visitTry(tree, none);
    }

    @Override
    public Void visitAssert(AssertTree tree, Void none) {
        wrong("assert", tree);
        return null;
    }

    @Override
    public Void visitSynchronized(SynchronizedTree tree, Void none) {
        wrong("synchronized", tree);
        return null;
    }
}
