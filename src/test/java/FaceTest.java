import java.lang.reflect.Constructor;
import java.lang.reflect.Field;
import java.lang.reflect.Method;
import java.lang.reflect.Modifier;
import java.util.Arrays;
import java.util.TreeSet;

/** The public face, and the rules of LANGUAGE.md that can be seen on the compiled class. */
public final class FaceTest {
    private static final String[] METHODS = {
        "int unit(int) IllegalStateException IllegalArgumentException",
        "int read() IllegalStateException",
        "int uses(int,int) IndexOutOfBoundsException",
        "int object() IllegalStateException",
        "int part(int,int) IndexOutOfBoundsException IllegalStateException",
        "boolean right(int,int,boolean) IndexOutOfBoundsException",
        "boolean trial(int,int,boolean) IndexOutOfBoundsException",
        "int reason(int,int,int,int) IndexOutOfBoundsException IllegalArgumentException",
        "int done(int,int,int,int,int) IndexOutOfBoundsException IllegalStateException IllegalArgumentException",
        "int row(int,int,int) IndexOutOfBoundsException",
        "int stock(int,int) IndexOutOfBoundsException IllegalArgumentException",
        "long about(int,int) IndexOutOfBoundsException",
        "boolean apart(int,int) IndexOutOfBoundsException",
        "int put(int,int) IndexOutOfBoundsException",
        "int plan(int,int) IndexOutOfBoundsException",
        "int step(int) IndexOutOfBoundsException",
        "int count(int) IndexOutOfBoundsException",
    };

    private static final Checks CHECKS = new Checks("FaceTest");

    public static void main(String[] args) {
        theFaceIsTheDocuments();
        theFieldsArePrivate();
        CHECKS.end();
    }

    private static void theFaceIsTheDocuments() {
        TreeSet<String> faces = new TreeSet<>();
        TreeSet<String> hidden = new TreeSet<>();
        for (Method method : MaterialBars.class.getDeclaredMethods()) {
            if (Modifier.isPublic(method.getModifiers())) {
                faces.add(written(method));
            } else {
                CHECKS.due(method + " is private", Modifier.isPrivate(method.getModifiers()), true);
                hidden.add(method.getName());
            }
        }
        CHECKS.due("the face", faces.toString(), new TreeSet<>(Arrays.asList(METHODS)).toString());
        for (Method method : MaterialBars.class.getDeclaredMethods()) {
            if (Modifier.isPublic(method.getModifiers())) {
                CHECKS.due("a private " + method.getName(), hidden.contains(method.getName()), false);
            }
        }
        Constructor<?>[] makers = MaterialBars.class.getDeclaredConstructors();
        CHECKS.due("constructors", makers.length, 1);
        CHECKS.due("the constructor", makers[0].toString(), "public MaterialBars()");
        CHECKS.due("the class", Modifier.toString(MaterialBars.class.getModifiers()), "public final");
    }

    private static String written(Method method) {
        StringBuilder text = new StringBuilder();
        text.append(method.getReturnType()).append(' ').append(method.getName()).append('(');
        for (int k = 0; k < method.getParameterCount(); k++) {
            text.append(k == 0 ? "" : ",").append(method.getParameterTypes()[k]);
        }
        text.append(')');
        for (Class<?> kind : method.getExceptionTypes()) {
            text.append(' ').append(kind.getSimpleName());
        }
        return text.toString();
    }

    private static void theFieldsArePrivate() {
        for (Field field : MaterialBars.class.getDeclaredFields()) {
            int modifiers = field.getModifiers();
            if (field.getName().equals("NONE")) {
                CHECKS.due("NONE", Modifier.toString(modifiers), "public static final");
                continue;
            }
            CHECKS.due(field + " is private", Modifier.isPrivate(modifiers), true);
            if (Modifier.isStatic(modifiers)) {
                CHECKS.due(field + " is final", Modifier.isFinal(modifiers), true);
            }
        }
        CHECKS.due("NONE", MaterialBars.NONE, -1);
    }
}
