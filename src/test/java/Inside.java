import java.lang.reflect.Array;
import java.lang.reflect.Field;
import java.lang.reflect.Modifier;
import java.util.ArrayList;
import java.util.HashMap;
import java.util.IdentityHashMap;
import java.util.List;
import java.util.Map;

/** All that an object holds, told as a text: if the text is the same ahead of a call and behind it, nothing changed. */
final class Inside {
    private static final Map<Class<?>, List<Field>> FIELDS = new HashMap<>();

    private final StringBuilder text = new StringBuilder();
    private final IdentityHashMap<Object, Integer> met = new IdentityHashMap<>();

    private Inside() {
    }

    static String told(Object object) {
        Inside inside = new Inside();
        inside.tell(object);
        return inside.text.toString();
    }

    private void tell(Object object) {
        if (object == null) {
            text.append("null ");
            return;
        }
        Class<?> kind = object.getClass();
        if (kind.getPackageName().startsWith("java.lang") && !kind.isArray()) {
            text.append(object).append(' ');
            return;
        }
        Integer before = met.putIfAbsent(object, met.size());
        if (before != null) {
            text.append('#').append(before).append(' ');
        } else if (kind.isArray()) {
            tellArray(object);
        } else {
            tellFields(object, kind);
        }
    }

    private void tellArray(Object array) {
        text.append('[');
        for (int i = 0; i < Array.getLength(array); i++) {
            tell(Array.get(array, i));
        }
        text.append(']');
    }

    private void tellFields(Object object, Class<?> kind) {
        text.append(kind.getSimpleName()).append('{');
        for (Field field : FIELDS.computeIfAbsent(kind, Inside::fieldsOf)) {
            try {
                text.append(field.getName()).append('=');
                tell(field.get(object));
            } catch (IllegalAccessException e) {
                throw new AssertionError(e);
            }
        }
        text.append('}');
    }

    private static List<Field> fieldsOf(Class<?> kind) {
        List<Field> fields = new ArrayList<>();
        for (Field field : kind.getDeclaredFields()) {
            if (!Modifier.isStatic(field.getModifiers())) {
                field.setAccessible(true);
                fields.add(field);
            }
        }
        return fields;
    }
}
