import java.lang.reflect.Array;
import java.lang.reflect.Field;
import java.lang.reflect.Modifier;
import java.util.IdentityHashMap;
import java.util.List;
import java.util.Map;

/** All that an object holds, as a text: what no call can ask must not change either when a call throws. */
final class Snapshot {
    private final StringBuilder text = new StringBuilder();
    private final Map<Object, Integer> seen = new IdentityHashMap<>();

    private Snapshot() {
    }

    static String of(Object object) {
        Snapshot snapshot = new Snapshot();
        snapshot.add(object);
        return snapshot.text.toString();
    }

    private void add(Object value) {
        if (value == null || value instanceof Number || value instanceof Boolean || value instanceof Character
                || value instanceof CharSequence || value instanceof Enum) {
            text.append(value).append(' ');
        } else if (seen.containsKey(value)) {
            text.append('#').append(seen.get(value)).append(' ');
        } else {
            seen.put(value, seen.size());
            addParts(value);
        }
    }

    private void addParts(Object value) {
        text.append('(');
        if (value instanceof List) {
            for (Object part : (List<?>) value) {
                add(part);
            }
        } else if (value.getClass().isArray()) {
            for (int i = 0; i < Array.getLength(value); i++) {
                add(Array.get(value, i));
            }
        } else {
            addFields(value);
        }
        text.append(')');
    }

    private void addFields(Object value) {
        for (Field field : value.getClass().getDeclaredFields()) {
            if (!Modifier.isStatic(field.getModifiers())) {
                text.append(field.getName()).append('=');
                field.setAccessible(true);
                try {
                    add(field.get(value));
                } catch (IllegalAccessException e) {
                    throw new IllegalStateException(e);
                }
            }
        }
    }
}
