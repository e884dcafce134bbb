import java.lang.reflect.Array;
import java.lang.reflect.Field;
import java.lang.reflect.Modifier;

/** All that an object holds, written out, so that a test can see that a call changed nothing. */
final class State {
    private State() {}

    static String of(Object x) {
        StringBuilder text = new StringBuilder();
        write(x, text);
        return text.toString();
    }

    private static void write(Object x, StringBuilder text) {
        if (x == null || x instanceof Number || x instanceof Boolean || x instanceof Character) {
            text.append(x).append(' ');
        } else if (x.getClass().isArray()) {
            for (int k = 0; k < Array.getLength(x); k++) {
                write(Array.get(x, k), text);
            }
        } else {
            writeFields(x, text);
        }
    }

    private static void writeFields(Object x, StringBuilder text) {
        for (Field field : x.getClass().getDeclaredFields()) {
            if (Modifier.isStatic(field.getModifiers())) {
                continue;
            }
            field.setAccessible(true);
            text.append(field.getName()).append('=');
            try {
                write(field.get(x), text);
            } catch (IllegalAccessException e) {
                throw new IllegalStateException(e);
            }
        }
    }
}
