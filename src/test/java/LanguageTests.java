import com.sun.source.tree.AssignmentTree;
import com.sun.source.tree.BinaryTree;
import com.sun.source.tree.ClassTree;
import com.sun.source.tree.CompilationUnitTree;
import com.sun.source.tree.CompoundAssignmentTree;
import com.sun.source.tree.ExpressionTree;
import com.sun.source.tree.ForLoopTree;
import com.sun.source.tree.ImportTree;
import com.sun.source.tree.LiteralTree;
import com.sun.source.tree.MethodInvocationTree;
import com.sun.source.tree.MethodTree;
import com.sun.source.tree.NewArrayTree;
import com.sun.source.tree.NewClassTree;
import com.sun.source.tree.ThrowTree;
import com.sun.source.tree.Tree;
import com.sun.source.tree.TypeCastTree;
import com.sun.source.tree.UnaryTree;
import com.sun.source.tree.VariableTree;
import com.sun.source.util.JavacTask;
import com.sun.source.util.TreePathScanner;
import com.sun.source.util.Trees;
import java.nio.file.Files;
import java.nio.file.Path;
import java.util.ArrayList;
import java.util.HashMap;
import java.util.HashSet;
import java.util.LinkedHashSet;
import java.util.List;
import java.util.Map;
import java.util.Set;
import javax.lang.model.element.Element;
import javax.lang.model.element.ElementKind;
import javax.lang.model.element.ExecutableElement;
import javax.lang.model.element.Modifier;
import javax.lang.model.type.TypeMirror;
import javax.tools.JavaCompiler;
import javax.tools.StandardJavaFileManager;
import javax.tools.ToolProvider;

/** The rules of ../shared/LANGUAGE.md by their numbers, as far as the compiler's tree of the program tells them. */
public final class LanguageTests {
    private static final Check CHECK = new Check();
    private static final Path PROGRAM = Path.of("src/main/java/Branchmatch.java");
    /** What of the library stands in rule 4 and is of use here; what is new must be looked up there first. */
    private static final Set<String> LIBRARY = Set.of(
            "String.length()", "String.charAt(int)", "StringBuilder.StringBuilder()", "StringBuilder.append(char)",
            "StringBuilder.toString()", "Math.max(int,int)", "Math.min(int,int)", "Integer.bitCount(int)",
            "Arrays.fill(int[],int)", "Object.Object()", "IndexOutOfBoundsException.IndexOutOfBoundsException(String)",
            "IllegalArgumentException.IllegalArgumentException(String)");
    private static final Set<Tree.Kind> LEFT_OUT = Set.of(
            Tree.Kind.LAMBDA_EXPRESSION, Tree.Kind.MEMBER_REFERENCE, Tree.Kind.TRY, Tree.Kind.CATCH, Tree.Kind.SYNCHRONIZED,
            Tree.Kind.ASSERT, Tree.Kind.INSTANCE_OF, Tree.Kind.WHILE_LOOP, Tree.Kind.DO_WHILE_LOOP, Tree.Kind.ANNOTATION,
            Tree.Kind.INTERFACE, Tree.Kind.ENUM, Tree.Kind.ANNOTATION_TYPE, Tree.Kind.NULL_LITERAL, Tree.Kind.PACKAGE,
            Tree.Kind.DIVIDE, Tree.Kind.DIVIDE_ASSIGNMENT, Tree.Kind.REMAINDER_ASSIGNMENT, Tree.Kind.DOUBLE_LITERAL,
            Tree.Kind.FLOAT_LITERAL, Tree.Kind.UNBOUNDED_WILDCARD, Tree.Kind.TYPE_PARAMETER);

    /** Walks over the whole program once. */
    private static final class Walk extends TreePathScanner<Void, Void> {
        final Trees trees;
        final CompilationUnitTree unit;
        final Set<String> classes = new LinkedHashSet<>();
        final Map<ExecutableElement, Set<ExecutableElement>> calls = new HashMap<>();
        final Set<String> face = new HashSet<>();
        final List<String> own = new ArrayList<>();
        final Set<String> made = new HashSet<>();
        private ExecutableElement method;
        private String className = "";
        private boolean isPublicClass;

        Walk(Trees trees, CompilationUnitTree unit) {
            this.trees = trees;
            this.unit = unit;
        }

        private String at(Tree tree) {
            return " in line " + unit.getLineMap().getLineNumber(trees.getSourcePositions().getStartPosition(unit, tree));
        }

        private Element element() {
            return trees.getElement(getCurrentPath());
        }

        private TypeMirror typeOf(Tree tree) {
            return trees.getTypeMirror(trees.getPath(unit, tree));
        }

        @Override
        public Void scan(Tree tree, Void none) {
            if (tree != null) {
                CHECK.so(tree.getKind() + at(tree), !LEFT_OUT.contains(tree.getKind()));
            }
            return super.scan(tree, none);
        }

        @Override
        public Void visitImport(ImportTree tree, Void none) {
            CHECK.due("rule 4: import", "java.util.Arrays", tree.getQualifiedIdentifier().toString());
            return null;
        }

        @Override
        public Void visitClass(ClassTree tree, Void none) {
            Set<Modifier> modifiers = tree.getModifiers().getFlags();
            String outer = className;
            className = tree.getSimpleName().toString();
            isPublicClass = className.equals("Branchmatch");
            classes.add(className);
            CHECK.due("rules 1 and 2: class " + className,
                    isPublicClass ? Set.of(Modifier.PUBLIC, Modifier.FINAL)
                            : Set.of(Modifier.PRIVATE, Modifier.STATIC, Modifier.FINAL), modifiers);
            CHECK.so("rule 2: a class in the class or alone" + at(tree), isPublicClass || outer.equals("Branchmatch"));
            int fields = 0;
            for (Tree member : tree.getMembers()) {
                CHECK.so("rule 5: no static block" + at(member), member.getKind() != Tree.Kind.BLOCK);
                if (member instanceof VariableTree) {
                    fields += ((VariableTree) member).getModifiers().getFlags().contains(Modifier.STATIC) ? 0 : 1;
                }
            }
            CHECK.so("rule 11: fields of " + className + ": " + fields, fields <= 20);
            super.visitClass(tree, none);
            className = outer;
            isPublicClass = className.equals("Branchmatch");
            return null;
        }

        @Override
        public Void visitMethod(MethodTree tree, Void none) {
            method = (ExecutableElement) element();
            calls.put(method, new LinkedHashSet<>());
            String name = tree.getName().toString();
            boolean isPublic = tree.getModifiers().getFlags().contains(Modifier.PUBLIC);
            CHECK.so("rule 1: public or private: " + name, !isPublicClass || isPublic != tree.getModifiers().getFlags().contains(Modifier.PRIVATE));
            CHECK.so("rule 1: public in the class alone: " + name, isPublicClass || !isPublic);
            CHECK.so("rule 6: " + name, !Set.of("equals", "hashCode", "toString").contains(name));
            CHECK.so("rule 11: parameters of " + name, tree.getParameters().size() <= 7);
            long start = trees.getSourcePositions().getStartPosition(unit, tree);
            long end = trees.getSourcePositions().getEndPosition(unit, tree);
            long lines = end < 0 ? 1 : unit.getLineMap().getLineNumber(end) - unit.getLineMap().getLineNumber(start) + 1;
            CHECK.so("rule 11: " + name + " is short", lines <= 60);
            if (isPublic && !name.equals("<init>")) {
                face.add(name);
            } else if (!name.equals("<init>")) {
                own.add(name);
            }
            super.visitMethod(tree, none);
            method = null;
            return null;
        }

        @Override
        public Void visitVariable(VariableTree tree, Void none) {
            Set<Modifier> modifiers = tree.getModifiers().getFlags();
            boolean isField = element().getKind() == ElementKind.FIELD;
            String type = typeOf(tree).toString().replace("Branchmatch.", "");
            CHECK.so("rule 3: type " + type + at(tree),
                    Set.of("int", "long", "boolean", "char", "int[]", "java.lang.String", "java.lang.StringBuilder").contains(type)
                            || Set.of("Term", "Answer", "Pairs", "Steps", "Classes", "Shape").contains(type.replace("[]", "")));
            CHECK.so("rule 1: a private field: " + tree.getName(), !isField || modifiers.contains(Modifier.PRIVATE));
            if (modifiers.contains(Modifier.STATIC)) {
                CHECK.so("rule 5: final: " + tree.getName(), modifiers.contains(Modifier.FINAL));
                CHECK.so("rule 5: a constant: " + tree.getName(),
                        Set.of("int", "java.lang.String", "int[]").contains(type));
            }
            return super.visitVariable(tree, none);
        }

        @Override
        public Void visitMethodInvocation(MethodInvocationTree tree, Void none) {
            called(tree);
            return super.visitMethodInvocation(tree, none);
        }

        @Override
        public Void visitNewClass(NewClassTree tree, Void none) {
            CHECK.so("rule 2: no class without a name" + at(tree), tree.getClassBody() == null);
            makes(tree.getIdentifier().toString());
            called(tree);
            return super.visitNewClass(tree, none);
        }

        @Override
        public Void visitNewArray(NewArrayTree tree, Void none) {
            makes(tree.getType() + "[]");
            return super.visitNewArray(tree, none);
        }

        private void makes(String what) {
            if (method != null && method.getKind() != ElementKind.CONSTRUCTOR) {
                made.add(method.getSimpleName() + " " + what);
            }
        }

        private void called(Tree tree) {
            ExecutableElement target = (ExecutableElement) element();
            String owner = target.getEnclosingElement().getSimpleName().toString();
            if (classes.contains(owner) || calls.containsKey(target)
                    || target.getEnclosingElement().toString().startsWith("Branchmatch")) {
                if (method != null) {
                    calls.get(method).add(target);
                }
                return;
            }
            String name = target.getKind() == ElementKind.CONSTRUCTOR ? owner : target.getSimpleName().toString();
            List<String> types = new ArrayList<>();
            target.getParameters().forEach(one -> types.add(one.asType().toString().replace("java.lang.", "")));
            String call = owner + "." + name + "(" + String.join(",", types) + ")";
            CHECK.so("rule 4: " + call + at(tree), LIBRARY.contains(call));
        }

        @Override
        public Void visitThrow(ThrowTree tree, Void none) {
            CHECK.so("rule 6: no throw in a constructor", method != null && method.getKind() == ElementKind.METHOD);
            ExpressionTree thrown = tree.getExpression();
            boolean isNew = thrown instanceof NewClassTree && ((NewClassTree) thrown).getArguments().size() <= 1;
            CHECK.so("rule 6: throw new E" + at(tree), isNew);
            for (ExpressionTree text : isNew ? ((NewClassTree) thrown).getArguments() : List.<ExpressionTree>of()) {
                CHECK.due("rule 6: a written text" + at(tree), Tree.Kind.STRING_LITERAL, text.getKind());
            }
            return super.visitThrow(tree, none);
        }

        @Override
        public Void visitForLoop(ForLoopTree tree, Void none) {
            CHECK.so("rule 9: a loop has an end" + at(tree), tree.getCondition() != null);
            return super.visitForLoop(tree, none);
        }

        @Override
        public Void visitBinary(BinaryTree tree, Void none) {
            boolean isText = typeOf(tree).toString().equals("java.lang.String");
            CHECK.so("rule 10: texts are joined by +" + at(tree), !isText);
            if (tree.getKind() == Tree.Kind.REMAINDER) {
                CHECK.due("rule 7: a divisor that is never 0" + at(tree), "NAMES", tree.getRightOperand().toString());
            }
            if (tree.getKind() == Tree.Kind.EQUAL_TO || tree.getKind() == Tree.Kind.NOT_EQUAL_TO) {
                CHECK.so("rule 6: == of texts" + at(tree),
                        !typeOf(tree.getLeftOperand()).toString().equals("java.lang.String"));
            }
            return super.visitBinary(tree, none);
        }

        @Override
        public Void visitLiteral(LiteralTree tree, Void none) {
            if (tree.getValue() instanceof String) {
                CHECK.so("rule 4: signs 1 to 127" + at(tree), ((String) tree.getValue()).chars().allMatch(c -> c > 0 && c < 128));
            }
            return super.visitLiteral(tree, none);
        }

        @Override
        public Void visitTypeCast(TypeCastTree tree, Void none) {
            CHECK.so("rule 6: a cast of numbers alone" + at(tree), typeOf(tree).getKind().isPrimitive());
            return super.visitTypeCast(tree, none);
        }

        @Override
        public Void visitAssignment(AssignmentTree tree, Void none) {
            changed(tree.getVariable());
            return super.visitAssignment(tree, none);
        }

        @Override
        public Void visitCompoundAssignment(CompoundAssignmentTree tree, Void none) {
            changed(tree.getVariable());
            return super.visitCompoundAssignment(tree, none);
        }

        @Override
        public Void visitUnary(UnaryTree tree, Void none) {
            boolean isChange = tree.toString().contains("++") || tree.toString().contains("--");
            if (isChange) {
                changed(tree.getExpression());
            }
            return super.visitUnary(tree, none);
        }

        /** A name in capitals is a constant's; the rows among them must not be changed either. */
        private void changed(ExpressionTree variable) {
            CHECK.so("rule 5: a constant stays" + at(variable), !variable.toString().matches("[A-Z_]+\\[?.*"));
        }

        /** How many calls stand open at most, this one among them. */
        int depthOf(ExecutableElement one, List<ExecutableElement> above) {
            CHECK.so("rule 8: " + one + " does not come back to itself by " + above, !above.contains(one));
            int most = 0;
            if (!above.contains(one)) {
                List<ExecutableElement> open = new ArrayList<>(above);
                open.add(one);
                for (ExecutableElement next : calls.getOrDefault(one, Set.of())) {
                    most = Math.max(most, depthOf(next, open));
                }
            }
            return most + 1;
        }
    }

    private static void look(Walk walk) {
        walk.scan(walk.unit, null);
        CHECK.due("rule 1: methods of the face", 41, walk.face.size());
        CHECK.so("rule 11: classes: " + walk.classes, walk.classes.size() <= 12);
        CHECK.so("methods of its own are found", walk.own.size() > 50);
        for (String name : walk.own) {
            CHECK.so("rule 1: a name of the face: " + name, !walk.face.contains(name));
        }
        CHECK.due("rule 12: what is made by methods besides exceptions", Set.of("written StringBuilder"), withoutExceptions(walk.made));
        int most = 0;
        for (ExecutableElement one : walk.calls.keySet()) {
            most = Math.max(most, walk.depthOf(one, List.of()));
        }
        CHECK.so("rule 11: calls go at most eight deep, and these " + most, most > 3 && most <= 8);
    }

    private static Set<String> withoutExceptions(Set<String> made) {
        Set<String> all = new HashSet<>(made);
        all.removeIf(one -> one.endsWith("Exception"));
        return all;
    }

    public static void main(String[] args) throws Exception {
        String source = Files.readString(PROGRAM);
        CHECK.so("plain signs alone", source.chars().allMatch(c -> c == '\n' || c >= ' ' && c < 127));
        JavaCompiler compiler = ToolProvider.getSystemJavaCompiler();
        try (StandardJavaFileManager files = compiler.getStandardFileManager(null, null, null)) {
            JavacTask task = (JavacTask) compiler.getTask(null, files, null, List.of("-proc:none"), null,
                    files.getJavaFileObjects(PROGRAM.toFile()));
            List<CompilationUnitTree> units = new ArrayList<>();
            task.parse().forEach(units::add);
            task.analyze();
            CHECK.due("rule 1: one file", 1, units.size());
            int publicOnes = 0;
            for (Tree one : units.get(0).getTypeDecls()) {
                publicOnes += one instanceof ClassTree ? 1 : 0;
            }
            CHECK.due("rule 1: one class beside those inside it", 1, publicOnes);
            look(new Walk(Trees.instance(task), units.get(0)));
        }
        CHECK.end("LanguageTests");
    }
}
