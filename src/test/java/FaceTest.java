import java.lang.reflect.Constructor;
import java.lang.reflect.Field;
import java.lang.reflect.Method;
import java.lang.reflect.Modifier;
import java.util.ArrayList;
import java.util.Arrays;
import java.util.List;
import java.util.TreeSet;

/** The class has the document's public face and shows nothing else. */
public final class FaceTest {
    private static final String[] METHODS = {
        "write(long,int)", "erase()", "fault()", "board()", "square(int,int)", "man(int,int)", "as(int,int)",
        "may(int)", "hop(int,int)", "attacked()", "keep(int)", "back(int)", "net(int,int)", "part(int,int)",
        "shape(int,int)", "ring(int,int,int)", "turned(int)", "fewest()", "way(int,int)", "alike()", "many(int)",
        "farthest(int)", "left(int)", "added(int)", "row(int,int)", "burn()", "judge()", "count(int)"};

    public static void main(String[] args) {
        Check check = new Check();
        int modifiers = WhiteKnights.class.getModifiers();
        check.due("public final", Modifier.isPublic(modifiers) && Modifier.isFinal(modifiers));
        check.due("methods", new TreeSet<>(shownMethods(check)).equals(new TreeSet<>(Arrays.asList(METHODS))));
        check.due("constants", shownFields(check).equals(new TreeSet<>(
            Arrays.asList("NONE", "UNKNOWN", "OUTSIDE", "NOT", "FULL"))));
        Constructor<?>[] constructors = WhiteKnights.class.getDeclaredConstructors();
        check.due("constructors", constructors.length, 1);
        check.due("public constructor", Modifier.isPublic(constructors[0].getModifiers()));
        check.due("constructor's arguments", constructors[0].getParameterCount(), 0);
        check.due("NONE", WhiteKnights.NONE, -1);
        check.due("UNKNOWN", WhiteKnights.UNKNOWN, -2);
        check.due("OUTSIDE", WhiteKnights.OUTSIDE, -3);
        check.due("NOT", WhiteKnights.NOT, -4);
        check.due("FULL", WhiteKnights.FULL, -5);
        for (Class<?> inside : WhiteKnights.class.getDeclaredClasses()) {
            check.due(inside + " is static", Modifier.isStatic(inside.getModifiers()));
            check.due(inside + " isn't public", !Modifier.isPublic(inside.getModifiers()));
            for (Method method : inside.getDeclaredMethods()) {
                check.due(method + " has a name of its own", !publicNames().contains(method.getName()));
            }
        }
        check.end();
    }

    private static List<String> shownMethods(Check check) {
        List<String> shown = new ArrayList<>();
        for (Method method : WhiteKnights.class.getDeclaredMethods()) {
            if (method.isSynthetic()) continue;
            if (Modifier.isPrivate(method.getModifiers())) {
                check.due(method + " has a name of its own", !publicNames().contains(method.getName()));
                continue;
            }
            boolean plain = Modifier.isPublic(method.getModifiers()) && !Modifier.isStatic(method.getModifiers());
            check.due(method + " is public, not static", plain);
            check.due(method + " answers an int", method.getReturnType() == int.class);
            StringBuilder types = new StringBuilder();
            for (Class<?> type : method.getParameterTypes()) types.append(types.length() == 0 ? "" : ",").append(type);
            shown.add(method.getName() + "(" + types + ")");
        }
        return shown;
    }

    private static TreeSet<String> shownFields(Check check) {
        TreeSet<String> shown = new TreeSet<>();
        for (Field field : WhiteKnights.class.getDeclaredFields()) {
            if (Modifier.isPrivate(field.getModifiers())) continue;
            shown.add(field.getName());
            int modifiers = field.getModifiers();
            check.due(field + " is a public constant", Modifier.isPublic(modifiers)
                && Modifier.isStatic(modifiers) && Modifier.isFinal(modifiers) && field.getType() == int.class);
        }
        return shown;
    }

    private static TreeSet<String> publicNames() {
        TreeSet<String> names = new TreeSet<>();
        for (String method : METHODS) names.add(method.substring(0, method.indexOf('(')));
        return names;
    }
}
