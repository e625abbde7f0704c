import java.nio.ByteBuffer;
import java.nio.charset.CharacterCodingException;
import java.nio.charset.CharsetDecoder;
import java.nio.charset.CodingErrorAction;
import java.nio.charset.StandardCharsets;
import java.util.ArrayList;
import java.util.Arrays;
import java.util.Collections;
import java.util.HashSet;
import java.util.List;
import java.util.Map;
import java.util.Set;
import java.util.TreeMap;

/**
 * A second reading of the document, word for word and by other means: documents are Doc, leaves
 * are gathered in lists, all faults are gathered and the first one picked.
 */
final class Reference {
    static final Object MISSING = new Object();
    private static final Set<String> JOINS = Set.of("$and", "$or", "$nor");
    private static final Set<String> CONDITIONS = Set.of("$eq", "$ne", "$in", "$nin", "$lt", "$lte", "$gt", "$gte",
            "$exists", "$size", "$elem", "$not");

    private Reference() {
    }

    // ---- bytes of a document

    static final class NoDocument extends Exception {
        private static final long serialVersionUID = 1L;
    }

    static Doc parse(byte[] bytes) {
        try {
            return document(bytes, false, 1);
        } catch (NoDocument refused) {
            return null;
        }
    }

    /** Takes the very bytes of a document or row. */
    private static Doc document(byte[] bytes, boolean row, int depth) throws NoDocument {
        need(depth <= 16 && bytes.length >= 5 && bytes.length <= 2000);
        need(number(bytes, 0, 4) == bytes.length && bytes[bytes.length - 1] == 0);
        Doc made = row ? Doc.row() : Doc.of();
        int at = 4;
        while (at < bytes.length - 1) {
            int kind = bytes[at] & 255;
            int end = at + 1;
            while (end < bytes.length - 1 && bytes[end] != 0) {
                end++;
            }
            need(end < bytes.length - 1);
            String name = text(Arrays.copyOfRange(bytes, at + 1, end));
            need(row ? name.equals("" + made.size()) : !made.names.contains(name));
            byte[] rest = Arrays.copyOfRange(bytes, end + 1, bytes.length - 1);
            int size = size(kind, rest);
            need(size <= rest.length);
            made.with(name, value(kind, Arrays.copyOf(rest, size), depth));
            at = end + 1 + size;
        }
        return made;
    }

    private static int size(int kind, byte[] rest) throws NoDocument {
        if (kind == 10) {
            return 0;
        }
        if (kind == 8) {
            return 1;
        }
        if (kind == 16) {
            return 4;
        }
        if (kind == 18) {
            return 8;
        }
        need((kind == 2 || kind == 3 || kind == 4) && rest.length >= 4);
        long size = number(rest, 0, 4);
        need(size >= 1 && size <= 2000);
        return (int) size + (kind == 2 ? 4 : 0);
    }

    private static Object value(int kind, byte[] bytes, int depth) throws NoDocument {
        if (kind == 10) {
            return null;
        }
        if (kind == 8) {
            need(bytes[0] == 0 || bytes[0] == 1);
            return bytes[0] == 1;
        }
        if (kind == 16) {
            return (int) number(bytes, 0, 4);
        }
        if (kind == 18) {
            return number(bytes, 0, 8);
        }
        if (kind == 2) {
            need(bytes[bytes.length - 1] == 0);
            return text(Arrays.copyOfRange(bytes, 4, bytes.length - 1));
        }
        return document(bytes, kind == 4, depth + 1);
    }

    private static long number(byte[] bytes, int at, int count) {
        long number = 0;
        for (int i = count - 1; i >= 0; i--) {
            number = number * 256 + (bytes[at + i] & 255);
        }
        return number;
    }

    private static String text(byte[] bytes) throws NoDocument {
        CharsetDecoder decoder = StandardCharsets.UTF_8.newDecoder().onMalformedInput(CodingErrorAction.REPORT)
                .onUnmappableCharacter(CodingErrorAction.REPORT);
        try {
            return decoder.decode(ByteBuffer.wrap(bytes)).toString();
        } catch (CharacterCodingException refused) {
            throw new NoDocument();
        }
    }

    private static void need(boolean so) throws NoDocument {
        if (!so) {
            throw new NoDocument();
        }
    }

    // ---- faults and counts of a filter

    /** Faults by their place, the least number at each; and what many() tells. */
    static final class Survey {
        final TreeMap<Integer, Integer> faults = new TreeMap<>();
        final List<Integer> both = new ArrayList<>();
        final int[] many = new int[4];

        void fault(int place, int number) {
            faults.merge(place, number, Math::min);
        }
    }

    static Survey survey(Doc filter) {
        Survey survey = new Survey();
        filter(survey, filter, 0);
        Collections.sort(survey.both);
        for (int i = 100; i < survey.both.size(); i++) {
            survey.fault(survey.both.get(i), 5);
        }
        survey.many[0] = filter.size();
        survey.many[1] = survey.both.size();
        return survey;
    }

    private static int[] places(Doc document, int start) {
        int[] places = new int[document.size()];
        int at = start + 4;
        for (int i = 0; i < places.length; i++) {
            places[i] = at;
            at = valuePlace(document, i, at) + Doc.valueBytes(document.values.get(i)).length;
        }
        return places;
    }

    private static int valuePlace(Doc document, int i, int place) {
        return place + 2 + document.names.get(i).getBytes(StandardCharsets.UTF_8).length;
    }

    private static void filter(Survey survey, Doc filter, int start) {
        int[] places = places(filter, start);
        for (int i = 0; i < filter.size(); i++) {
            String name = filter.names.get(i);
            Object value = filter.values.get(i);
            int within = valuePlace(filter, i, places[i]);
            survey.both.add(places[i]);
            if (JOINS.contains(name)) {
                join(survey, value, places[i], within);
            } else if (name.startsWith("$")) {
                survey.fault(places[i], 1);
            } else {
                path(survey, name, places[i]);
                if (isConditions(value)) {
                    conditions(survey, (Doc) value, within);
                } else {
                    survey.both.add(places[i]);
                }
            }
        }
    }

    private static void join(Survey survey, Object value, int place, int within) {
        if (!isRow(value) || ((Doc) value).size() == 0) {
            survey.fault(place, 2);
            return;
        }
        Doc row = (Doc) value;
        int[] places = places(row, within);
        for (int i = 0; i < row.size(); i++) {
            if (isDocument(row.values.get(i))) {
                filter(survey, (Doc) row.values.get(i), valuePlace(row, i, places[i]));
            } else {
                survey.fault(places[i], 2);
            }
        }
    }

    private static void path(Survey survey, String name, int place) {
        String[] steps = name.split("\\.", -1);
        boolean right = steps.length <= 8;
        for (String step : steps) {
            right &= !step.isEmpty() && !step.startsWith("$");
        }
        if (right) {
            survey.many[2]++;
            survey.many[3] += steps.length;
        } else {
            survey.fault(place, 3);
        }
    }

    private static void conditions(Survey survey, Doc conditions, int start) {
        int[] places = places(conditions, start);
        for (int i = 0; i < conditions.size(); i++) {
            String name = conditions.names.get(i);
            Object value = conditions.values.get(i);
            int within = valuePlace(conditions, i, places[i]);
            survey.both.add(places[i]);
            if (!CONDITIONS.contains(name)) {
                survey.fault(places[i], 1);
            } else if (!fits(name, value)) {
                survey.fault(places[i], 4);
            } else if (name.equals("$not") || name.equals("$elem") && isElemConditions((Doc) value)) {
                conditions(survey, (Doc) value, within);
            } else if (name.equals("$elem")) {
                filter(survey, (Doc) value, within);
            }
        }
    }

    private static boolean fits(String name, Object value) {
        switch (name) {
            case "$in":
            case "$nin":
                return isRow(value);
            case "$exists":
                return value instanceof Boolean;
            case "$size":
                return value instanceof Number && ((Number) value).longValue() >= 0;
            case "$elem":
                return isDocument(value);
            case "$not":
                return isConditions(value);
            default:
                return true;
        }
    }

    private static boolean isRow(Object value) {
        return value instanceof Doc && ((Doc) value).row;
    }

    private static boolean isDocument(Object value) {
        return value instanceof Doc && !((Doc) value).row;
    }

    private static boolean isConditions(Object value) {
        return isDocument(value) && ((Doc) value).size() > 0 && ((Doc) value).names.get(0).startsWith("$");
    }

    private static boolean isElemConditions(Doc value) {
        return isConditions(value) && !JOINS.contains(value.names.get(0));
    }

    // ---- order

    private static final Map<Integer, Integer> CLASSES = Map.of(10, 1, 16, 2, 18, 2, 2, 3, 3, 4, 4, 5, 8, 6);

    static int classOf(Object value) {
        return value == MISSING ? 0 : CLASSES.get(Doc.kind(value));
    }

    static int compare(Object a, Object b) {
        int order = classOf(a) - classOf(b);
        if (order != 0) {
            return order;
        }
        switch (classOf(a)) {
            case 2:
                return Long.compare(((Number) a).longValue(), ((Number) b).longValue());
            case 3:
                return compareTexts((String) a, (String) b);
            case 4:
            case 5:
                return compareParts((Doc) a, (Doc) b);
            case 6:
                return Boolean.compare((Boolean) a, (Boolean) b);
            default:
                return 0;
        }
    }

    private static int compareTexts(String a, String b) {
        return Arrays.compareUnsigned(a.getBytes(StandardCharsets.UTF_8), b.getBytes(StandardCharsets.UTF_8));
    }

    private static int compareParts(Doc a, Doc b) {
        for (int i = 0; i < a.size() && i < b.size(); i++) {
            Object x = a.values.get(i);
            Object y = b.values.get(i);
            int order = a.row ? 0 : classOf(x) - classOf(y);
            if (order == 0 && !a.row) {
                order = compareTexts(a.names.get(i), b.names.get(i));
            }
            if (order == 0) {
                order = compare(x, y);
            }
            if (order != 0) {
                return order;
            }
        }
        return a.size() - b.size();
    }

    // ---- leaves

    static List<Object> leaves(Object value, List<String> steps) {
        List<Object> leaves = new ArrayList<>();
        if (steps.isEmpty()) {
            leaves.add(value);
            return leaves;
        }
        String step = steps.get(0);
        List<String> others = steps.subList(1, steps.size());
        if (isDocument(value)) {
            int i = ((Doc) value).names.indexOf(step);
            if (i < 0) {
                leaves.add(MISSING);
            } else {
                leaves.addAll(leaves(((Doc) value).values.get(i), others));
            }
        } else if (isRow(value)) {
            List<Object> items = ((Doc) value).values;
            if (step.matches("0|[1-9][0-9]{0,5}") && Integer.parseInt(step) < items.size()) {
                leaves.addAll(leaves(items.get(Integer.parseInt(step)), others));
            }
            for (Object item : items) {
                if (isDocument(item)) {
                    leaves.addAll(leaves(item, steps));
                }
            }
        } else {
            leaves.add(MISSING);
        }
        return leaves;
    }

    // ---- whether a filter holds

    static int fails(Doc filter, Doc document) {
        for (int i = 0; i < filter.size(); i++) {
            if (!elementHolds(filter.names.get(i), filter.values.get(i), document)) {
                return i;
            }
        }
        return -1;
    }

    private static boolean elementHolds(String name, Object value, Doc document) {
        if (JOINS.contains(name)) {
            int holding = 0;
            Doc row = (Doc) value;
            for (Object part : row.values) {
                holding += fails((Doc) part, document) < 0 ? 1 : 0;
            }
            return name.equals("$and") ? holding == row.size() : name.equals("$or") ? holding > 0 : holding == 0;
        }
        List<Object> leaves = leaves(document, Arrays.asList(name.split("\\.")));
        if (leaves.isEmpty()) {
            leaves.add(MISSING);
        }
        return conditionsHold(isConditions(value) ? (Doc) value : Doc.of("$eq", value), leaves);
    }

    private static boolean conditionsHold(Doc conditions, List<Object> leaves) {
        boolean all = true;
        for (int i = 0; i < conditions.size(); i++) {
            all &= holds(conditions.names.get(i), conditions.values.get(i), leaves);
        }
        return all;
    }

    private static List<Object> withItems(List<Object> leaves) {
        List<Object> all = new ArrayList<>();
        for (Object leaf : leaves) {
            all.add(leaf);
            if (isRow(leaf)) {
                all.addAll(((Doc) leaf).values);
            }
        }
        return all;
    }

    private static boolean holds(String name, Object v, List<Object> leaves) {
        switch (name) {
            case "$eq":
                return equal(v, leaves);
            case "$ne":
                return !equal(v, leaves);
            case "$in":
                return ((Doc) v).values.stream().anyMatch(item -> equal(item, leaves));
            case "$nin":
                return ((Doc) v).values.stream().noneMatch(item -> equal(item, leaves));
            case "$exists":
                return (Boolean) v == leaves.stream().anyMatch(leaf -> leaf != MISSING);
            case "$size":
                return leaves.stream().anyMatch(leaf -> isRow(leaf) && ((Doc) leaf).size() == ((Number) v).longValue());
            case "$elem":
                return leaves.stream().anyMatch(leaf -> isRow(leaf)
                        && ((Doc) leaf).values.stream().anyMatch(item -> itemHolds((Doc) v, item)));
            case "$not":
                return !conditionsHold((Doc) v, leaves);
            default:
                return ordered(name, v, leaves);
        }
    }

    private static boolean itemHolds(Doc v, Object item) {
        if (isElemConditions(v)) {
            return conditionsHold(v, Collections.singletonList(item));
        }
        return isDocument(item) && fails(v, (Doc) item) < 0;
    }

    private static boolean equal(Object v, List<Object> leaves) {
        return withItems(leaves).stream().anyMatch(leaf -> compare(leaf, v) == 0)
                || v == null && leaves.contains(MISSING);
    }

    private static boolean ordered(String name, Object v, List<Object> leaves) {
        if (v == null && name.endsWith("e")) {
            return equal(v, leaves);
        }
        Set<Integer> wanted = new HashSet<>();
        wanted.add(name.startsWith("$lt") ? -1 : 1);
        if (name.endsWith("e")) {
            wanted.add(0);
        }
        return withItems(leaves).stream().anyMatch(leaf -> classOf(leaf) == classOf(v)
                && wanted.contains(Integer.signum(compare(leaf, v))));
    }
}
