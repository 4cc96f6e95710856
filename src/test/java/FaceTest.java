import java.lang.reflect.Constructor;
import java.lang.reflect.Field;
import java.lang.reflect.Method;
import java.lang.reflect.Modifier;
import java.util.Arrays;
import java.util.Set;
import java.util.TreeSet;

/** The public face: just what the document writes, and rule 1 of LANGUAGE.md. */
public final class FaceTest {
    private static final String INDEX = "IndexOutOfBoundsException";
    private static final String ARGUMENT = "IllegalArgumentException";
    private static final String STATE = "IllegalStateException";
    private static final String UNSUPPORTED = "UnsupportedOperationException";

    public static void main(String[] args) {
        theClass();
        theConstants();
        theConstructor();
        theMethods();
        theRestIsPrivate();
        Check.end();
    }

    private static void theClass() {
        Check.due("the class", Modifier.toString(TurnTree.class.getModifiers()), "public final");
        Check.due("its package", TurnTree.class.getPackageName(), "");
        Check.due("what it is above", TurnTree.class.getSuperclass().getSimpleName(), "Object");
        Check.due("its interfaces", TurnTree.class.getInterfaces().length, 0);
    }

    private static void theConstants() {
        Set<String> constants = new TreeSet<>();
        for (Field field : TurnTree.class.getFields()) {
            constants.add(field.toGenericString());
        }
        Check.due("constants", constants.toString(), "[public static final int TurnTree.NONE]");
        Check.due("NONE", TurnTree.NONE, -1);
    }

    private static void theConstructor() {
        Constructor<?>[] all = TurnTree.class.getDeclaredConstructors();
        Check.due("constructors", all.length, 1);
        Check.due("constructor", all[0].toGenericString(), "public TurnTree()");
    }

    private static void theMethods() {
        Set<String> want = new TreeSet<>(Arrays.asList(
                method("int", "add", "int,int,int", INDEX, ARGUMENT, STATE, UNSUPPORTED),
                method("void", "remove", "int", INDEX, STATE),
                method("void", "weight", "int,int", INDEX, ARGUMENT),
                method("void", "move", "int,int", INDEX, ARGUMENT, STATE),
                method("boolean", "put", "int,int,int", INDEX, STATE, ARGUMENT, UNSUPPORTED),
                method("int", "putAll", "int,int,int,int", INDEX, STATE, ARGUMENT),
                method("boolean", "turn", ""),
                method("int", "turns", "int", ARGUMENT),
                method("int", "latest", "int", ARGUMENT),
                method("int", "clear", "int", INDEX),
                method("void", "hold", "int,int", INDEX, ARGUMENT),
                method("int", "child", "int,int", INDEX),
                method("int", "packet", "int,int", INDEX),
                method("long", "sum", "int,int", INDEX, ARGUMENT),
                method("int", "about", "int,int", INDEX, ARGUMENT),
                method("int", "count", "int", ARGUMENT)));
        Set<String> got = new TreeSet<>();
        for (Method method : TurnTree.class.getDeclaredMethods()) {
            if (!Modifier.isPrivate(method.getModifiers())) {
                got.add(method.toString());
            }
        }
        Check.due("methods", String.join("\n", got), String.join("\n", want));
    }

    private static String method(String type, String name, String parameters, String... thrown) {
        String text = "public " + type + " TurnTree." + name + "(" + parameters + ")";
        return thrown.length == 0 ? text : text + " throws java.lang." + String.join(",java.lang.", thrown);
    }

    private static void theRestIsPrivate() {
        Set<String> open = new TreeSet<>();
        for (Method method : TurnTree.class.getMethods()) {
            open.add(method.getName());
        }
        for (Method method : TurnTree.class.getDeclaredMethods()) {
            boolean twice = Modifier.isPrivate(method.getModifiers()) && open.contains(method.getName());
            Check.due("a private method has the name " + method.getName(), twice, false);
        }
        for (Field field : TurnTree.class.getDeclaredFields()) {
            boolean hidden = Modifier.isPrivate(field.getModifiers());
            Check.due(field.getName() + " is private", hidden, !field.getName().equals("NONE"));
            boolean changes = Modifier.isStatic(field.getModifiers()) && !Modifier.isFinal(field.getModifiers());
            Check.due(field.getName() + " is static and can change", changes, false);
        }
        for (Class<?> inside : TurnTree.class.getDeclaredClasses()) {
            Check.due(inside.getSimpleName() + " is static", Modifier.isStatic(inside.getModifiers()), true);
            Check.due(inside.getSimpleName() + " is public", Modifier.isPublic(inside.getModifiers()), false);
        }
    }
}
