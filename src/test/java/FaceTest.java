import java.lang.reflect.Constructor;
import java.lang.reflect.Field;
import java.lang.reflect.Method;
import java.lang.reflect.Modifier;
import java.util.ArrayList;
import java.util.Arrays;
import java.util.List;

/** The public face is the document's, and no other member can be seen (LANGUAGE.md, rule 1). */
public final class FaceTest {
    private static final String[] FACE = {
        "public FlowLedger()",
        "public boolean FlowLedger.change(int,int,int)",
        "public boolean FlowLedger.supply(int,int)",
        "public int FlowLedger.add(int,int,int,int)",
        "public int FlowLedger.amount()",
        "public int FlowLedger.arcs()",
        "public int FlowLedger.bottleneck()",
        "public int FlowLedger.cost()",
        "public int FlowLedger.least(int)",
        "public int FlowLedger.marginal(int,int)",
        "public int FlowLedger.most(int)",
        "public int FlowLedger.slack(int)",
        "public int FlowLedger.state()",
        "public static final int FlowLedger.BAD",
        "public static final int FlowLedger.ENDLESS",
        "public static final int FlowLedger.FULL",
        "public static final int FlowLedger.IMPOSSIBLE",
        "public static final int FlowLedger.NONE",
        "public void FlowLedger.clear()",
    };

    public static void main(String[] args) {
        List<String> seen = new ArrayList<>();
        for (Constructor<?> made : FlowLedger.class.getDeclaredConstructors()) {
            note(seen, made.getModifiers(), made.toString());
        }
        for (Method method : FlowLedger.class.getDeclaredMethods()) {
            note(seen, method.getModifiers(), method.toString());
        }
        for (Field field : FlowLedger.class.getDeclaredFields()) {
            note(seen, field.getModifiers(), field.toString());
        }
        seen.sort(null);

        Due due = new Due();
        if (!seen.equals(Arrays.asList(FACE))) {
            System.out.println("the face is " + String.join("\n  ", seen));
        }
        due.due("the face is the document's", seen.equals(Arrays.asList(FACE)), true);
        due.due("the class is public", Modifier.isPublic(FlowLedger.class.getModifiers()), true);
        due.due("the class is final", Modifier.isFinal(FlowLedger.class.getModifiers()), true);
        for (Class<?> inside : FlowLedger.class.getDeclaredClasses()) {
            due.due(inside + " is static", Modifier.isStatic(inside.getModifiers()), true);
            due.due(inside + " is public", Modifier.isPublic(inside.getModifiers()), false);
            due.due(inside + " is protected", Modifier.isProtected(inside.getModifiers()), false);
        }
        due.due("BAD", FlowLedger.BAD, -1000000);
        due.due("FULL", FlowLedger.FULL, -1000001);
        due.due("IMPOSSIBLE", FlowLedger.IMPOSSIBLE, -1000002);
        due.due("ENDLESS", FlowLedger.ENDLESS, -1000003);
        due.due("NONE", FlowLedger.NONE, -1000004);
        due.end();
    }

    private static void note(List<String> seen, int modifiers, String member) {
        if (!Modifier.isPrivate(modifiers)) {
            seen.add(member);
        }
    }
}
