import java.io.File;
import java.io.IOException;
import java.lang.reflect.Field;
import java.lang.reflect.Method;
import java.lang.reflect.Modifier;
import java.nio.file.Files;
import java.nio.file.Path;
import java.util.regex.Matcher;
import java.util.regex.Pattern;

/** README.md says how to use the class and how to run its tests, and what it says is so. */
public final class ReadmeTest {
    private static final Sentences README = new Sentences();
    private static final Pattern CALL =
        Pattern.compile("^ledger\\.(\\w+)\\(([-0-9, ]*)\\);\\s+// (\\w+|-\\d+)", Pattern.MULTILINE);
    private static String text;

    public static void main(String[] args) throws IOException {
        text = Files.readString(Path.of("README.md"));
        README.test("What each line answers stands behind it", ReadmeTest::example);
        README.test("how to use the class: every call", ReadmeTest::calls);
        README.test("how to use the class: every constant", ReadmeTest::constants);
        README.test("how to run its tests", ReadmeTest::tests);
        README.end();
    }

    private static void example() {
        FlowLedger ledger = new FlowLedger();
        Matcher line = CALL.matcher(text);
        int lines = 0;
        while (line.find()) {
            String answer = answer(ledger, line.group(1), line.group(2));
            README.same(line.group(), answer, line.group(3));
            lines++;
        }
        README.due("calls that the example has", lines, count("\nledger."));
    }

    private static int count(String words) {
        return text.split(Pattern.quote(words), -1).length - 1;
    }

    private static String answer(FlowLedger ledger, String name, String numbers) {
        Object[] given = numbers.isEmpty()
            ? new Object[0]
            : Pattern.compile(", ").splitAsStream(numbers).map(Integer::valueOf).toArray();
        Class<?>[] types = new Class<?>[given.length];
        java.util.Arrays.fill(types, int.class);
        try {
            Object answer = FlowLedger.class.getMethod(name, types).invoke(ledger, given);
            return answer == null ? "nothing" : nameOf(answer);
        } catch (ReflectiveOperationException wrong) {
            throw new IllegalStateException(wrong);
        }
    }

    private static String nameOf(Object answer) throws IllegalAccessException {
        for (Field constant : FlowLedger.class.getFields()) {
            if (constant.get(null).equals(answer)) {
                return constant.getName();
            }
        }
        return answer.toString();
    }

    private static void calls() {
        for (Method method : FlowLedger.class.getDeclaredMethods()) {
            if (Modifier.isPublic(method.getModifiers())) {
                boolean shown = text.contains("\nledger." + method.getName() + "(");
                README.due("the example shows " + method.getName(), shown, true);
            }
        }
    }

    private static void constants() {
        for (Field constant : FlowLedger.class.getFields()) {
            README.same(constant.getName(), valueInTable(constant.getName()), valueOf(constant));
        }
    }

    private static String valueInTable(String name) {
        Matcher row = Pattern.compile("\\| `" + name + "` +\\| (-\\d+) ").matcher(text);
        return row.find() ? row.group(1) : "not in the table";
    }

    private static String valueOf(Field constant) {
        try {
            return constant.get(null).toString();
        } catch (IllegalAccessException wrong) {
            throw new IllegalStateException(wrong);
        }
    }

    private static void tests() {
        README.due("it names .ci/run", text.contains("\n.ci/run\n"), true);
        for (String file : new File("src/test/java").list()) {
            String name = file.replace(".java", "");
            README.due("it names " + name, text.contains("`" + name + "`"), true);
        }
    }
}
