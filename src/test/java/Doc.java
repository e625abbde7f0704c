import java.io.ByteArrayOutputStream;
import java.nio.charset.StandardCharsets;
import java.util.ArrayList;
import java.util.List;

/**
 * A document or a row written by hand. Values are Integer, Long, Boolean, String, Doc and null
 * (NOTHING).
 */
final class Doc {
    final boolean row;
    final List<String> names = new ArrayList<>();
    final List<Object> values = new ArrayList<>();

    private Doc(boolean row) {
        this.row = row;
    }

    static Doc of(Object... namesAndValues) {
        Doc made = new Doc(false);
        for (int i = 0; i < namesAndValues.length; i += 2) {
            made.with((String) namesAndValues[i], namesAndValues[i + 1]);
        }
        return made;
    }

    static Doc row(Object... items) {
        Doc made = new Doc(true);
        for (Object item : items) {
            made.item(item);
        }
        return made;
    }

    Doc with(String name, Object value) {
        names.add(name);
        values.add(value);
        return this;
    }

    Doc item(Object value) {
        return with(Integer.toString(names.size()), value);
    }

    int size() {
        return names.size();
    }

    byte[] bytes() {
        ByteArrayOutputStream elements = new ByteArrayOutputStream();
        for (int i = 0; i < names.size(); i++) {
            elements.write(kind(values.get(i)));
            elements.writeBytes(names.get(i).getBytes(StandardCharsets.UTF_8));
            elements.write(0);
            elements.writeBytes(valueBytes(values.get(i)));
        }
        ByteArrayOutputStream all = new ByteArrayOutputStream();
        all.writeBytes(number(elements.size() + 5, 4));
        all.writeBytes(elements.toByteArray());
        all.write(0);
        return all.toByteArray();
    }

    static int kind(Object value) {
        if (value == null) {
            return 10;
        }
        if (value instanceof Doc) {
            return ((Doc) value).row ? 4 : 3;
        }
        if (value instanceof String) {
            return 2;
        }
        if (value instanceof Boolean) {
            return 8;
        }
        return value instanceof Integer ? 16 : 18;
    }

    static byte[] valueBytes(Object value) {
        switch (kind(value)) {
            case 10:
                return new byte[0];
            case 8:
                return new byte[] {(byte) ((Boolean) value ? 1 : 0)};
            case 16:
                return number((Integer) value, 4);
            case 18:
                return number((Long) value, 8);
            case 2:
                ByteArrayOutputStream text = new ByteArrayOutputStream();
                byte[] bytes = ((String) value).getBytes(StandardCharsets.UTF_8);
                text.writeBytes(number(bytes.length + 1, 4));
                text.writeBytes(bytes);
                text.write(0);
                return text.toByteArray();
            default:
                return ((Doc) value).bytes();
        }
    }

    static byte[] number(long number, int bytes) {
        byte[] made = new byte[bytes];
        for (int i = 0; i < bytes; i++) {
            made[i] = (byte) (number >> (8 * i));
        }
        return made;
    }

    @Override
    public String toString() {
        StringBuilder text = new StringBuilder(row ? "[" : "{");
        for (int i = 0; i < names.size(); i++) {
            text.append(i == 0 ? "" : ", ");
            text.append(row ? "" : names.get(i) + ": ");
            Object value = values.get(i);
            text.append(value instanceof String ? "'" + value + "'" : value instanceof Long ? value + "L" : "" + value);
        }
        return text.append(row ? "]" : "}").toString();
    }
}
