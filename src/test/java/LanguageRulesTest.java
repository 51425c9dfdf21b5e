import com.sun.source.tree.ArrayAccessTree;
import com.sun.source.tree.BinaryTree;
import com.sun.source.tree.ClassTree;
import com.sun.source.tree.CompilationUnitTree;
import com.sun.source.tree.CompoundAssignmentTree;
import com.sun.source.tree.ExpressionTree;
import com.sun.source.tree.ForLoopTree;
import com.sun.source.tree.LiteralTree;
import com.sun.source.tree.MethodInvocationTree;
import com.sun.source.tree.MethodTree;
import com.sun.source.tree.ModifiersTree;
import com.sun.source.tree.NewArrayTree;
import com.sun.source.tree.NewClassTree;
import com.sun.source.tree.ParenthesizedTree;
import com.sun.source.tree.ThrowTree;
import com.sun.source.tree.Tree;
import com.sun.source.tree.Tree.Kind;
import com.sun.source.tree.TypeCastTree;
import com.sun.source.tree.UnaryTree;
import com.sun.source.tree.VariableTree;
import com.sun.source.tree.WhileLoopTree;
import com.sun.source.util.JavacTask;
import com.sun.source.util.TreePath;
import com.sun.source.util.TreePathScanner;
import com.sun.source.util.TreeScanner;
import com.sun.source.util.Trees;
import java.io.IOException;
import java.nio.file.Path;
import java.util.ArrayDeque;
import java.util.Deque;
import java.util.EnumSet;
import java.util.List;
import java.util.Map;
import java.util.Set;
import java.util.TreeMap;
import java.util.TreeSet;
import javax.lang.model.element.Element;
import javax.lang.model.element.ElementKind;
import javax.lang.model.element.ExecutableElement;
import javax.lang.model.element.Modifier;
import javax.lang.model.element.TypeElement;
import javax.lang.model.element.VariableElement;
import javax.lang.model.type.ArrayType;
import javax.lang.model.type.TypeKind;
import javax.lang.model.type.TypeMirror;
import javax.tools.JavaCompiler;
import javax.tools.StandardJavaFileManager;
import javax.tools.ToolProvider;

/**
 * The rules of ../shared/LANGUAGE.md as the compiler's tree of the file shows them. What the file does not use at all
 * (lists, try, recursion) is not allowed here, though the rules would allow it: who needs it adds the rule's test.
 */
public final class LanguageRulesTest {
    private static final Path SOURCE = Path.of("src/main/java/DoubledRows.java");
    private static final int MOST_CALLS_DEEP = 8;
    private static final int MOST_CLASSES = 12;
    private static final int MOST_FIELDS = 20;
    private static final int MOST_PARAMETERS = 7;
    private static final int MOST_LINES = 60;

    private static final Set<Kind> KINDS = EnumSet.of(Kind.COMPILATION_UNIT, Kind.IMPORT, Kind.CLASS, Kind.METHOD,
        Kind.VARIABLE, Kind.MODIFIERS, Kind.BLOCK, Kind.IF, Kind.FOR_LOOP, Kind.WHILE_LOOP, Kind.SWITCH, Kind.CASE,
        Kind.BREAK, Kind.CONTINUE, Kind.RETURN, Kind.THROW, Kind.EXPRESSION_STATEMENT, Kind.NEW_CLASS, Kind.NEW_ARRAY,
        Kind.METHOD_INVOCATION, Kind.MEMBER_SELECT, Kind.IDENTIFIER, Kind.ARRAY_ACCESS, Kind.ARRAY_TYPE,
        Kind.PRIMITIVE_TYPE, Kind.TYPE_CAST, Kind.PARENTHESIZED, Kind.CONDITIONAL_EXPRESSION, Kind.ASSIGNMENT,
        Kind.PLUS_ASSIGNMENT, Kind.OR_ASSIGNMENT, Kind.MINUS_ASSIGNMENT, Kind.POSTFIX_INCREMENT,
        Kind.POSTFIX_DECREMENT, Kind.UNARY_MINUS, Kind.LOGICAL_COMPLEMENT, Kind.PLUS, Kind.MINUS, Kind.MULTIPLY,
        Kind.DIVIDE, Kind.REMAINDER, Kind.LEFT_SHIFT, Kind.UNSIGNED_RIGHT_SHIFT, Kind.AND, Kind.OR, Kind.LESS_THAN,
        Kind.LESS_THAN_EQUAL, Kind.GREATER_THAN, Kind.GREATER_THAN_EQUAL, Kind.EQUAL_TO, Kind.NOT_EQUAL_TO,
        Kind.CONDITIONAL_AND, Kind.CONDITIONAL_OR, Kind.INT_LITERAL, Kind.LONG_LITERAL, Kind.CHAR_LITERAL,
        Kind.STRING_LITERAL, Kind.BOOLEAN_LITERAL, Kind.NULL_LITERAL);

    private static final Set<String> LIBRARY = Set.of("Math.min", "Math.max", "Long.bitCount", "System.arraycopy",
        "String.length", "String.charAt", "Object.<init>");

    private static final Set<String> THROWN = Set.of("IllegalStateException", "IllegalArgumentException",
        "IndexOutOfBoundsException", "ArithmeticException", "UnsupportedOperationException", "NoSuchElementException",
        "RuntimeException");

    private static final Set<TypeKind> NUMBERS = EnumSet.of(TypeKind.INT, TypeKind.LONG, TypeKind.SHORT, TypeKind.BYTE,
        TypeKind.CHAR, TypeKind.BOOLEAN, TypeKind.DOUBLE, TypeKind.FLOAT);

    private LanguageRulesTest() {
    }

    public static void main(String[] args) throws IOException {
        JavaCompiler compiler = ToolProvider.getSystemJavaCompiler();
        try (StandardJavaFileManager files = compiler.getStandardFileManager(null, null, null)) {
            JavacTask task = (JavacTask) compiler.getTask(null, files, null, List.of("-proc:none", "--release", "17"),
                null, files.getJavaFileObjects(SOURCE));
            CompilationUnitTree unit = task.parse().iterator().next();
            task.analyze();
            Rules rules = new Rules(Trees.instance(task), unit);
            rules.scan(new TreePath(unit), null);
            rules.end();
        }
        Check.end();
    }

    private static final class Rules extends TreePathScanner<Void, Void> {
        private final Trees trees;
        private final CompilationUnitTree unit;
        private final Map<String, Set<String>> calls = new TreeMap<>();
        private final Map<String, Set<String>> thrown = new TreeMap<>();
        private final Map<String, Set<String>> declared = new TreeMap<>();
        private int classes = 0;
        private int loops = 0;

        Rules(Trees trees, CompilationUnitTree unit) {
            this.trees = trees;
            this.unit = unit;
        }

        private String at(Tree tree) {
            long start = trees.getSourcePositions().getStartPosition(unit, tree);
            return "line " + unit.getLineMap().getLineNumber(Math.max(start, 0)) + ": ";
        }

        private int linesOf(Tree tree) {
            long start = trees.getSourcePositions().getStartPosition(unit, tree);
            long end = trees.getSourcePositions().getEndPosition(unit, tree);
            return (int) (unit.getLineMap().getLineNumber(end) - unit.getLineMap().getLineNumber(start)) + 1;
        }

        private void demand(String rule, Tree tree, boolean holds) {
            Check.same("rule " + rule + ", " + (holds ? "" : at(tree) + tree), holds, (Object) true);
        }

        private MethodTree enclosingMethod() {
            for (TreePath path = getCurrentPath(); path != null; path = path.getParentPath()) {
                if (path.getLeaf() instanceof MethodTree method) {
                    return method;
                }
            }
            return null;
        }

        /** A method, or the constructor of the class for what stands in a field. */
        private String enclosingName() {
            for (TreePath path = getCurrentPath(); path != null; path = path.getParentPath()) {
                Element element = trees.getElement(path);
                if (path.getLeaf() instanceof MethodTree) {
                    return nameOf((ExecutableElement) element);
                }
                if (path.getLeaf() instanceof ClassTree) {
                    return element.getSimpleName() + ".<init>";
                }
            }
            return "";
        }

        private static String nameOf(ExecutableElement method) {
            return method.getEnclosingElement().getSimpleName() + "." + method.getSimpleName();
        }

        private static void add(Map<String, Set<String>> map, String key, String item) {
            map.computeIfAbsent(key, k -> new TreeSet<>()).add(item);
        }

        private boolean isOwn(Element element) {
            for (Element outer = element; outer != null; outer = outer.getEnclosingElement()) {
                if (outer.getSimpleName().contentEquals("DoubledRows")) {
                    return true;
                }
            }
            return false;
        }

        private static boolean isStatic(ModifiersTree modifiers) {
            return modifiers.getFlags().contains(Modifier.STATIC);
        }

        private TypeMirror typeOf(Tree tree) {
            return trees.getTypeMirror(new TreePath(getCurrentPath(), tree));
        }

        private Object constantOf(Tree tree) {
            if (tree instanceof LiteralTree literal) {
                return literal.getValue();
            }
            Element element = trees.getElement(new TreePath(getCurrentPath(), tree));
            return element instanceof VariableElement variable ? variable.getConstantValue() : null;
        }

        @Override
        public Void scan(Tree tree, Void nothing) {
            if (tree != null) {
                demand("2 to 10: this kind of code, " + tree.getKind(), tree, KINDS.contains(tree.getKind()));
            }
            return super.scan(tree, nothing);
        }

        @Override
        public Void visitCompilationUnit(CompilationUnitTree tree, Void nothing) {
            demand("1: no package line, one class", tree, tree.getPackageName() == null
                && tree.getTypeDecls().size() == 1);
            return super.visitCompilationUnit(tree, nothing);
        }

        @Override
        public Void visitClass(ClassTree tree, Void nothing) {
            classes++;
            boolean isInside = getCurrentPath().getParentPath().getLeaf() instanceof ClassTree;
            boolean isOutside = getCurrentPath().getParentPath().getLeaf() instanceof CompilationUnitTree;
            demand("2: a static class inside", tree, isOutside || isInside && isStatic(tree.getModifiers()));
            int fields = 0;
            for (Tree member : tree.getMembers()) {
                fields += member instanceof VariableTree field && !isStatic(field.getModifiers()) ? 1 : 0;
                demand("5: no initialiser block", member, member.getKind() != Kind.BLOCK);
            }
            demand("11: some twenty fields", tree, fields <= MOST_FIELDS);
            return super.visitClass(tree, nothing);
        }

        @Override
        public Void visitVariable(VariableTree tree, Void nothing) {
            Element element = trees.getElement(getCurrentPath());
            demand("3: the type of a variable", tree, isAllowed(element.asType(), 1));
            if (element.getKind() == ElementKind.FIELD && element.getModifiers().contains(Modifier.STATIC)) {
                boolean isConstant = ((VariableElement) element).getConstantValue() != null;
                demand("5: a static field is a constant", tree, element.getModifiers().contains(Modifier.FINAL)
                    && isConstant);
            }
            return super.visitVariable(tree, nothing);
        }

        /** Arrays of one dimension alone: the file has no others. */
        private boolean isAllowed(TypeMirror type, int dimensions) {
            if (type instanceof ArrayType array) {
                return dimensions > 0 && isAllowed(array.getComponentType(), dimensions - 1);
            }
            String name = type.toString();
            boolean isClass = name.startsWith("DoubledRows") || name.equals("java.lang.String");
            return isClass || NUMBERS.contains(type.getKind());
        }

        @Override
        public Void visitMethod(MethodTree tree, Void nothing) {
            ExecutableElement method = (ExecutableElement) trees.getElement(getCurrentPath());
            String name = nameOf(method);
            TypeMirror answer = method.getReturnType();
            demand("3: the type of an answer", tree, answer.getKind() == TypeKind.VOID || isAllowed(answer, 0));
            demand("11: seven parameters", tree, tree.getParameters().size() <= MOST_PARAMETERS);
            demand("11: some sixty lines", tree, linesOf(tree) <= MOST_LINES);
            if (name.startsWith("DoubledRows.") && method.getModifiers().contains(Modifier.PUBLIC)) {
                declared.put(name, new TreeSet<>());
                for (TypeMirror type : method.getThrownTypes()) {
                    add(declared, name, type.toString().replaceAll(".*\\.", ""));
                }
            }
            return super.visitMethod(tree, nothing);
        }

        @Override
        public Void visitMethodInvocation(MethodInvocationTree tree, Void nothing) {
            ExecutableElement method = (ExecutableElement) trees.getElement(getCurrentPath());
            demand("4: the library", tree, isOwn(method) || LIBRARY.contains(nameOf(method)));
            add(calls, enclosingName(), nameOf(method));
            return super.visitMethodInvocation(tree, nothing);
        }

        @Override
        public Void visitNewClass(NewClassTree tree, Void nothing) {
            TypeElement type = (TypeElement) trees.getElement(getCurrentPath()).getEnclosingElement();
            boolean isThrown = getCurrentPath().getParentPath().getLeaf() instanceof ThrowTree;
            boolean isMade = isOwn(type) && tree.getClassBody() == null;
            demand("4 and 6: what is made", tree, isThrown || isMade);
            demand("12: made in a constructor or a field", tree, isThrown || enclosingName().endsWith(".<init>"));
            if (!isThrown) {
                add(calls, enclosingName(), type.getSimpleName() + ".<init>");
            }
            return super.visitNewClass(tree, nothing);
        }

        @Override
        public Void visitNewArray(NewArrayTree tree, Void nothing) {
            demand("12: made in a field", tree, enclosingMethod() == null);
            for (ExpressionTree length : tree.getDimensions()) {
                demand("7: a length above 0", tree, isConstantAboveZero(length));
            }
            return super.visitNewArray(tree, nothing);
        }

        private boolean isConstantAboveZero(ExpressionTree tree) {
            if (tree instanceof BinaryTree both && tree.getKind() == Kind.MULTIPLY) {
                return isConstantAboveZero(both.getLeftOperand()) && isConstantAboveZero(both.getRightOperand());
            }
            return constantOf(tree) instanceof Integer length && length > 0;
        }

        @Override
        public Void visitThrow(ThrowTree tree, Void nothing) {
            boolean isNew = tree.getExpression() instanceof NewClassTree;
            demand("6: throw new E", tree, isNew);
            if (isNew) {
                NewClassTree made = (NewClassTree) tree.getExpression();
                String name = made.getIdentifier().toString();
                boolean isPlain = made.getArguments().isEmpty()
                    || made.getArguments().size() == 1 && made.getArguments().get(0).getKind() == Kind.STRING_LITERAL;
                demand("6: E is one of these, with a written text", tree, THROWN.contains(name) && isPlain);
                add(thrown, enclosingName(), name);
            }
            demand("6: no throw in a constructor", tree, !enclosingName().endsWith(".<init>"));
            return super.visitThrow(tree, nothing);
        }

        @Override
        public Void visitTypeCast(TypeCastTree tree, Void nothing) {
            demand("7: a cast of a number", tree, NUMBERS.contains(typeOf(tree.getType()).getKind()));
            return super.visitTypeCast(tree, nothing);
        }

        @Override
        public Void visitBinary(BinaryTree tree, Void nothing) {
            TypeMirror left = typeOf(tree.getLeftOperand());
            TypeMirror right = typeOf(tree.getRightOperand());
            boolean isText = left.toString().equals("java.lang.String") || right.toString().equals("java.lang.String");
            demand("6 and 10: no text is joined or compared by a sign", tree, !isText);
            boolean isDivision = tree.getKind() == Kind.DIVIDE || tree.getKind() == Kind.REMAINDER;
            if (isDivision && right.getKind() == TypeKind.FLOAT) {
                String divisor = ((TypeCastTree) tree.getRightOperand()).getExpression().toString();
                boolean isLookedAt = enclosingMethod().toString().contains("if (" + divisor + " == 0) {");
                demand("3: no division answers NaN", tree, isLookedAt);
            } else if (isDivision) {
                demand("7: a divisor above 0", tree, isConstantAboveZero(tree.getRightOperand()));
            }
            return super.visitBinary(tree, nothing);
        }

        /** An index of another form than a name would need another test. */
        @Override
        public Void visitArrayAccess(ArrayAccessTree tree, Void nothing) {
            String index = tree.getIndex().toString();
            String length = tree.getExpression() + ".length";
            MethodTree method = enclosingMethod();
            String code = method == null ? "" : method.toString();
            boolean isAbove = code.contains(index + " >= 0") || code.contains(index + " < 0")
                || code.contains("int " + index + " = 0;");
            boolean isBelow = code.contains(index + " < " + length) || code.contains(index + " >= " + length);
            demand("7: an index is looked at", tree, isAbove && isBelow);
            return super.visitArrayAccess(tree, nothing);
        }

        @Override
        public Void visitForLoop(ForLoopTree tree, Void nothing) {
            loops++;
            demand("9: the end of a loop", tree, tree.getCondition() != null && tree.getUpdate().size() == 1
                && isBounded(tree, tree.getCondition()));
            return super.visitForLoop(tree, nothing);
        }

        @Override
        public Void visitWhileLoop(WhileLoopTree tree, Void nothing) {
            loops++;
            demand("9: the end of a loop", tree, isBounded(tree, tree.getCondition()));
            return super.visitWhileLoop(tree, nothing);
        }

        /** One part of the condition must be a bound of a name that goes up below it, or down above it. */
        private static boolean isBounded(Tree loop, Tree condition) {
            Deque<Tree> parts = new ArrayDeque<>(List.of(condition));
            while (!parts.isEmpty()) {
                Tree part = parts.pop();
                if (part instanceof ParenthesizedTree inner) {
                    parts.push(inner.getExpression());
                } else if (part instanceof BinaryTree both && both.getKind() == Kind.CONDITIONAL_AND) {
                    parts.push(both.getLeftOperand());
                    parts.push(both.getRightOperand());
                } else if (part instanceof BinaryTree both && bounds(loop, both)) {
                    return true;
                }
            }
            return false;
        }

        private static boolean bounds(Tree loop, BinaryTree condition) {
            Set<String> names = Set.of(condition.getLeftOperand().toString().split(" \\+ "));
            boolean isUp = condition.getKind() == Kind.LESS_THAN || condition.getKind() == Kind.LESS_THAN_EQUAL;
            boolean isDown = condition.getKind() == Kind.GREATER_THAN || condition.getKind() == Kind.GREATER_THAN_EQUAL;
            boolean[] isStepped = {false};
            new TreeScanner<Void, Void>() {
                @Override
                public Void visitUnary(UnaryTree tree, Void nothing) {
                    Kind step = isUp ? Kind.POSTFIX_INCREMENT : Kind.POSTFIX_DECREMENT;
                    isStepped[0] |= tree.getKind() == step && names.contains(tree.getExpression().toString());
                    return super.visitUnary(tree, nothing);
                }

                @Override
                public Void visitCompoundAssignment(CompoundAssignmentTree tree, Void nothing) {
                    Kind step = isUp ? Kind.PLUS_ASSIGNMENT : Kind.MINUS_ASSIGNMENT;
                    isStepped[0] |= tree.getKind() == step && names.contains(tree.getVariable().toString());
                    return super.visitCompoundAssignment(tree, nothing);
                }
            }.scan(loop, null);
            return (isUp || isDown) && isStepped[0];
        }

        void end() {
            Check.same("rule 11: some twelve classes", classes <= MOST_CLASSES, (Object) true);
            Check.same("there are loops", loops > 20, (Object) true);
            Check.same("the methods of the face and its constructor", declared.size(), 30 + 1);
            for (String name : declared.keySet()) {
                Set<String> reached = new TreeSet<>();
                int deep = depth(name, new ArrayDeque<>(), reached);
                Check.same("rule 11: " + name + " goes at most eight calls deep: " + deep, deep <= MOST_CALLS_DEEP,
                    (Object) true);
                Set<String> due = declared.get(name);
                Check.same("rule 6: what " + name + " throws", exceptionsOf(reached), due);
            }
        }

        /** How many calls are open at once, and all methods that are reached. */
        private int depth(String name, Deque<String> open, Set<String> reached) {
            Check.same("rule 8: " + name + " calls itself", open.contains(name), (Object) false);
            if (open.contains(name)) {
                return open.size();
            }
            reached.add(name);
            open.push(name);
            int most = 0;
            for (String called : calls.getOrDefault(name, Set.of())) {
                most = Math.max(most, depth(called, open, reached));
            }
            open.pop();
            return most + 1;
        }

        private Set<String> exceptionsOf(Set<String> methods) {
            Set<String> all = new TreeSet<>();
            for (String name : methods) {
                all.addAll(thrown.getOrDefault(name, Set.of()));
            }
            return all;
        }
    }
}
