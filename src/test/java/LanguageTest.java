import com.sun.source.tree.ClassTree;
import com.sun.source.tree.CompilationUnitTree;
import com.sun.source.tree.IdentifierTree;
import com.sun.source.tree.MemberSelectTree;
import com.sun.source.tree.MethodInvocationTree;
import com.sun.source.tree.MethodTree;
import com.sun.source.tree.NewArrayTree;
import com.sun.source.tree.Tree;
import com.sun.source.tree.Tree.Kind;
import com.sun.source.tree.TypeCastTree;
import com.sun.source.tree.VariableTree;
import com.sun.source.util.JavacTask;
import com.sun.source.util.SourcePositions;
import com.sun.source.util.TreeScanner;
import com.sun.source.util.Trees;
import java.io.File;
import java.io.IOException;
import java.util.HashMap;
import java.util.Map;
import java.util.Set;
import java.util.TreeSet;
import javax.lang.model.element.Modifier;
import javax.tools.JavaCompiler;
import javax.tools.StandardJavaFileManager;
import javax.tools.ToolProvider;

/** The rules of LANGUAGE.md that only the source shows; FaceTest has those that the class shows. */
public final class LanguageTest {
    private static final String SOURCE = "src/main/java/SnippetSession.java";
    private static final int DEPTH = 6;
    private static final int LINES = 60;

    private static final String NUMBER_TYPE = "int|long|short|byte|char|boolean";
    private static final String TYPE = "(" + NUMBER_TYPE + ")(\\[\\])?";

    /** Ruled out wherever they stand, by rules 2, 4 and 6. */
    private static final Set<Kind> RULED_OUT = Set.of(
            Kind.NEW_CLASS, Kind.STRING_LITERAL, Kind.FLOAT_LITERAL, Kind.DOUBLE_LITERAL, Kind.NULL_LITERAL,
            Kind.THROW, Kind.TRY, Kind.SYNCHRONIZED, Kind.ASSERT, Kind.INSTANCE_OF, Kind.LAMBDA_EXPRESSION,
            Kind.MEMBER_REFERENCE);

    public static void main(String[] args) throws IOException {
        JavaCompiler compiler = ToolProvider.getSystemJavaCompiler();
        try (StandardJavaFileManager files = compiler.getStandardFileManager(null, null, null)) {
            JavacTask task = (JavacTask) compiler.getTask(null, files, null, null, null,
                    files.getJavaFileObjects(new File(SOURCE)));
            CompilationUnitTree unit = task.parse().iterator().next();
            ClassTree type = (ClassTree) unit.getTypeDecls().get(0);
            checkFile(unit);
            checkMembers(type);
            checkCalls(type);
            checkLines(unit, type, Trees.instance(task).getSourcePositions());
            new Rules().scan(type, null);
        }
        Check.finish();
    }

    private static void checkFile(CompilationUnitTree unit) {
        Check.same("rule 1, no package line", unit.getPackageName() == null, true);
        Check.is("rule 1, classes in the file", unit.getTypeDecls().size(), 1);
        Check.is("rule 3, imports", unit.getImports().size(), 0);
    }

    private static void checkMembers(ClassTree type) {
        for (Tree member : type.getMembers()) {
            boolean plain = member instanceof MethodTree || member instanceof VariableTree;
            Check.same("rules 1 and 5, only fields and methods: " + member.getKind(), plain, true);
            if (member instanceof VariableTree) {
                checkField((VariableTree) member);
            }
        }
    }

    private static void checkField(VariableTree field) {
        Set<Modifier> marks = field.getModifiers().getFlags();
        boolean array = field.getType().toString().endsWith("]");
        Check.same("rule 4, an array field is final: " + field, !array || marks.contains(Modifier.FINAL), true);
        if (marks.contains(Modifier.STATIC)) {
            Check.same("rule 5, a constant: " + field, isConstant(field.getInitializer()), true);
        }
    }

    /** Numbers and names of constants joined by signs. */
    private static boolean isConstant(Tree value) {
        return value != null && value.toString().matches("[-+* A-Z_0-9]+");
    }

    private static void checkCalls(ClassTree type) {
        Map<String, Set<String>> callees = new HashMap<>();
        for (Tree member : type.getMembers()) {
            if (member instanceof MethodTree) {
                MethodTree method = (MethodTree) member;
                Set<String> before = callees.put(method.getName().toString(), callsIn(method));
                Check.same("no second method bears the name " + method.getName(), before == null, true);
            }
        }
        for (String name : callees.keySet()) {
            Check.same("rules 8 and 10, calls from " + name + " go at most " + DEPTH + " deep",
                    depth(name, callees, 1) <= DEPTH, true);
        }
    }

    private static Set<String> callsIn(MethodTree method) {
        Set<String> names = new TreeSet<>();
        new TreeScanner<Void, Void>() {
            @Override
            public Void visitMethodInvocation(MethodInvocationTree call, Void none) {
                names.add(call.getMethodSelect().toString());
                return super.visitMethodInvocation(call, none);
            }
        }.scan(method.getBody(), null);
        return names;
    }

    /** How many methods stand one within the other, this one counted; recursion goes past DEPTH. */
    private static int depth(String name, Map<String, Set<String>> callees, int above) {
        Check.same("rule 3, a method of the class itself: " + name, callees.containsKey(name), true);
        int deepest = above;
        for (String callee : callees.getOrDefault(name, Set.of())) {
            if (above <= DEPTH) {
                deepest = Math.max(deepest, depth(callee, callees, above + 1));
            }
        }
        return deepest;
    }

    private static void checkLines(CompilationUnitTree unit, ClassTree type, SourcePositions places) {
        for (Tree member : type.getMembers()) {
            if (member instanceof MethodTree) {
                long first = unit.getLineMap().getLineNumber(places.getStartPosition(unit, member));
                long last = unit.getLineMap().getLineNumber(places.getEndPosition(unit, member));
                Check.same("rule 10, a short method: " + ((MethodTree) member).getName(), last - first < LINES, true);
            }
        }
    }

    /** Looks at every place of the class. */
    private static final class Rules extends TreeScanner<Void, Void> {
        private boolean inMethod;
        private boolean inArguments;

        @Override
        public Void scan(Tree tree, Void none) {
            boolean ruledOut = tree != null && RULED_OUT.contains(tree.getKind());
            Check.same("rules 2, 4 and 6, " + tree, ruledOut, false);
            return super.scan(tree, none);
        }

        @Override
        public Void visitMethod(MethodTree method, Void none) {
            inMethod = true;
            super.visitMethod(method, none);
            inMethod = false;
            return null;
        }

        @Override
        public Void visitVariable(VariableTree variable, Void none) {
            String type = String.valueOf(variable.getType());
            Check.same("rule 2, type of " + variable, type.matches(TYPE), true);
            return super.visitVariable(variable, none);
        }

        @Override
        public Void visitTypeCast(TypeCastTree cast, Void none) {
            Check.same("rule 6, " + cast, cast.getType().toString().matches(NUMBER_TYPE), true);
            return super.visitTypeCast(cast, none);
        }

        @Override
        public Void visitMemberSelect(MemberSelectTree select, Void none) {
            boolean own = select.getExpression().toString().equals("this");
            Check.same("rule 3, " + select, own || select.getIdentifier().contentEquals("length"), true);
            return super.visitMemberSelect(select, none);
        }

        @Override
        public Void visitNewArray(NewArrayTree array, Void none) {
            Check.same("rule 4, made in a field's initialiser: " + array, inMethod, false);
            Check.same("rule 4, of constant length: " + array,
                    array.getDimensions().size() == 1 && isConstant(array.getDimensions().get(0)), true);
            return super.visitNewArray(array, none);
        }

        @Override
        public Void visitMethodInvocation(MethodInvocationTree call, Void none) {
            Check.same("rule 3, a call of the class's own: " + call,
                    call.getMethodSelect() instanceof IdentifierTree, true);
            Check.same("rule 10, a call inside the arguments of another: " + call, inArguments, false);
            inArguments = true;
            scan(call.getArguments(), none);
            inArguments = false;
            return null;
        }
    }
}
