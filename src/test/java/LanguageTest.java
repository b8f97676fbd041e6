import com.sun.source.tree.ClassTree;
import com.sun.source.tree.EnhancedForLoopTree;
import com.sun.source.tree.ForLoopTree;
import com.sun.source.tree.MethodTree;
import com.sun.source.tree.NewClassTree;
import com.sun.source.tree.Tree;
import com.sun.source.tree.VariableTree;
import java.io.File;
import java.util.Random;
import java.util.Set;
import java.util.TreeSet;

/**
 * The rules of LANGUAGE.md, as narrow as the class keeps to them: it needs no text, list, library
 * object, exception or recursion, so what the rules say of those is that there are none.
 */
public final class LanguageTest {
    private static final Sentences RULES = new Sentences();
    private static final SourceTree SOURCE = new SourceTree(new File("src/main/java/FlowLedger.java"));
    private static final Set<String> TYPES = Set.of("int", "boolean", "int[]", "Network", "Router");

    private static final Set<Tree.Kind> NOT_FOR_US = Set.of(
        Tree.Kind.LAMBDA_EXPRESSION, Tree.Kind.MEMBER_REFERENCE, Tree.Kind.THROW, Tree.Kind.TRY,
        Tree.Kind.SYNCHRONIZED, Tree.Kind.ASSERT, Tree.Kind.WHILE_LOOP, Tree.Kind.DO_WHILE_LOOP,
        Tree.Kind.TYPE_CAST, Tree.Kind.DIVIDE, Tree.Kind.REMAINDER, Tree.Kind.STRING_LITERAL,
        Tree.Kind.NULL_LITERAL, Tree.Kind.INSTANCE_OF);

    public static void main(String[] args) {
        RULES.test("1: No private method bears the name of a public one.", LanguageTest::names);
        RULES.test("2: static nested classes .. no lambda, no method reference", LanguageTest::classes);
        RULES.test("3: Types", LanguageTest::types);
        RULES.test("4: The library: only what stands here.", LanguageTest::library);
        RULES.test("5: Static fields are final: constants", LanguageTest::staticFields);
        RULES.test("6: and nothing else ever reaches its caller", LanguageTest::kinds);
        RULES.test("7: No call may ever throw by itself", LanguageTest::anyArguments);
        RULES.test("9: Every loop has an end that can be seen from its own lines", LanguageTest::loops);
        RULES.test("11: at most seven parameters .. some sixty lines .. some twelve classes .. some"
            + " twenty fields", LanguageTest::sizes);
        RULES.test("11: calls that are no recursion go at most eight deep", LanguageTest::depth);
        RULES.test("12: What a run makes is counted", LanguageTest::objects);
        RULES.test("12: A constructor calls no method .. and hands out nothing of the object that it"
            + " makes.", LanguageTest::constructors);
        RULES.test("13: the same calls always give the same answers", LanguageTest::sameAnswers);
        RULES.end();
    }

    private static void due(String what, boolean got, boolean want) {
        RULES.due(what, got, want);
    }

    private static void none(String what, Object found) {
        RULES.same(what, found.toString(), "[]");
    }

    private static void names() {
        Set<String> faces = new TreeSet<>();
        for (MethodTree method : SOURCE.methods) {
            if (SourceTree.isPublic(method)) {
                faces.add(method.getName().toString());
            }
        }
        for (MethodTree method : SOURCE.methods) {
            boolean facesName = faces.contains(method.getName().toString());
            due(method.getName() + " bears a public name", facesName, SourceTree.isPublic(method));
        }
    }

    private static void classes() {
        for (ClassTree type : SOURCE.classes) {
            due("a class has a name", type.getSimpleName().length() > 0, true);
            boolean isOuter = type.getSimpleName().contentEquals("FlowLedger");
            boolean isStatic = type.getModifiers().toString().contains("static");
            due(type.getSimpleName() + " is static", isStatic, !isOuter);
        }
    }

    private static void types() {
        for (VariableTree variable : SOURCE.variables) {
            due(variable + " is of a type of ours", TYPES.contains(variable.getType().toString()), true);
        }
    }

    private static void library() {
        RULES.due("imports", SOURCE.imports, 0);
        Set<String> allowed = Set.of("Math.max", "Math.min", "Router.NO_ARC");
        for (String use : SOURCE.staticUses) {
            due(use + " is allowed", allowed.contains(use), true);
        }
        Set<String> called = new TreeSet<>();
        SOURCE.calls.values().forEach(called::addAll);
        called.removeAll(SOURCE.calls.keySet());
        RULES.same("called, but not a method of ours", called.toString(), "[max, min]");
        for (NewClassTree made : SOURCE.made) {
            due(made + " is of a class of ours", TYPES.contains(made.getIdentifier().toString()), true);
        }
    }

    private static void staticFields() {
        RULES.due("initialiser blocks", SOURCE.classBlocks, 0);
        for (VariableTree field : SOURCE.fields) {
            if (SourceTree.isStatic(field)) {
                due(field + " is final", field.getModifiers().toString().contains("final"), true);
                RULES.same(field + " is of type", field.getType().toString(), "int");
            }
        }
    }

    private static void kinds() {
        Set<Tree.Kind> found = new TreeSet<>(SOURCE.kinds);
        found.retainAll(NOT_FOR_US);
        none("what the class does without", found);
    }

    private static void loops() {
        for (ForLoopTree loop : SOURCE.loops) {
            String counter = ((VariableTree) loop.getInitializer().get(0)).getName().toString();
            String condition = " " + loop.getCondition().toString().replace("(", "").replace(")", "");
            due(condition + " bounds " + counter, condition.contains(" " + counter + " < "), true);
            RULES.same("it goes up", loop.getUpdate().get(0).toString(), counter + "++;");
        }
        for (EnhancedForLoopTree loop : SOURCE.loopsOver) {
            RULES.same("over an array", loop.getExpression().toString(), "numbers");
        }
    }

    private static void sizes() {
        due("classes", SOURCE.classes.size() <= 12, true);
        for (MethodTree method : SOURCE.methods) {
            due(method.getName() + "'s parameters", method.getParameters().size() <= 7, true);
            due(method.getName() + "'s lines", SOURCE.linesOf(method) <= 60, true);
        }
        for (ClassTree type : SOURCE.classes) {
            int fields = 0;
            for (Tree member : type.getMembers()) {
                boolean isField = member instanceof VariableTree field && !SourceTree.isStatic(field);
                fields += isField ? 1 : 0;
            }
            due(type.getSimpleName() + "'s fields", fields <= 20, true);
        }
    }

    /** Names stand for methods, which is right only as long as no two methods share one. */
    private static void depth() {
        RULES.due("no two methods share a name", SOURCE.calls.size(), SOURCE.methods.size());
        for (String name : SOURCE.calls.keySet()) {
            due(name + "'s depth", depthFrom(name, 8) <= 8, true);
        }
    }

    /** More than the limit if the calls go on beyond it, as those of a recursion do. */
    private static int depthFrom(String name, int limit) {
        int deepest = 0;
        for (String called : SOURCE.calls.getOrDefault(name, Set.of())) {
            deepest = Math.max(deepest, limit == 0 ? 1 : depthFrom(called, limit - 1));
        }
        return 1 + deepest;
    }

    private static void objects() {
        none("made by a method that is no constructor", SOURCE.madeInMethods);
    }

    private static void constructors() {
        none("called by a constructor", SOURCE.calledInConstructors);
        for (NewClassTree made : SOURCE.made) {
            none("handed out by " + made, "[" + made.getArguments() + "]");
        }
    }

    private static void anyArguments() {
        for (int seed = 0; seed < 50; seed++) {
            callAtRandom(seed, new FlowLedger());
        }
        due("no run of calls threw", true, true);
    }

    private static void sameAnswers() {
        for (int seed = 0; seed < 10; seed++) {
            String first = callAtRandom(seed, new FlowLedger());
            callAtRandom(seed + 1000, new FlowLedger());
            RULES.same("answers of seed " + seed, callAtRandom(seed, new FlowLedger()), first);
        }
    }

    private static String callAtRandom(int seed, FlowLedger x) {
        Random random = new Random(seed);
        StringBuilder answers = new StringBuilder();
        for (int call = 0; call < 512; call++) {
            answers.append(answer(random, x)).append(' ');
        }
        return answers.toString();
    }

    private static long answer(Random random, FlowLedger x) {
        switch (random.nextInt(16)) {
            case 0, 1, 2: return x.add(any(random), any(random), any(random), any(random));
            case 3: return x.change(any(random), any(random), any(random)) ? 1 : 0;
            case 4: return x.supply(any(random), any(random)) ? 1 : 0;
            case 5: return x.arcs();
            case 6: return x.state();
            case 7: return x.cost();
            case 8: return x.amount();
            case 9: return x.bottleneck();
            case 10: return x.marginal(any(random), any(random));
            case 11: return x.least(any(random));
            case 12: return x.most(any(random));
            case 13: return x.slack(any(random));
            case 14: return x.supply(random.nextInt(8), 0) ? 1 : 0;
            default: return clearSeldom(random, x);
        }
    }

    private static int clearSeldom(Random random, FlowLedger x) {
        if (random.nextInt(4) == 0) {
            x.clear();
        }
        return 0;
    }

    /** Mostly a number that fits somewhere; now and then any number at all. */
    private static int any(Random random) {
        return switch (random.nextInt(24)) {
            case 0 -> random.nextInt();
            case 1 -> Nets.LOWEST;
            case 2 -> Nets.HIGHEST;
            case 3 -> random.nextInt(64) - 32;
            default -> random.nextInt(9) - 1;
        };
    }
}
