import java.util.Arrays;
import java.util.List;

/** The term ORDER, sentence by sentence. */
public final class OrderTest {
    private static final String TERM = "Terms: ORDER";

    public static void main(String[] args) {
        Sentence.testAll(sentences());
    }

    static List<Sentence> sentences() {
        return List.of(
            new Sentence(TERM, "ORDER. Values have CLASSES: MISSING (0) is less than NOTHING (1), that less than numbers "
                + "(2, of both kinds), these less than texts (3), documents (4), rows (5), truths (6).",
                OrderTest::classes),
            new Sentence(TERM, "In one class: numbers by value", OrderTest::numbers),
            new Sentence(TERM, "texts byte by byte without sign, a text less than one that it begins", OrderTest::texts),
            new Sentence(TERM, "documents element by element: by the class of the value, then by the name (as texts), "
                + "then by the value", OrderTest::documents),
            new Sentence(TERM, "rows item by item", OrderTest::rows),
            new Sentence(TERM, "a document or row that ends first is less", OrderTest::endsFirst),
            new Sentence(TERM, "a truth 0 less than 1.", OrderTest::truths),
            new Sentence(TERM, "Two are the SAME when neither is less (so are numbers of both kinds with one value).",
                OrderTest::same));
    }

    /** Each of them is less than all behind it; those in one row are the same. */
    private static void ascending(Object[]... values) {
        for (int i = 0; i < values.length; i++) {
            for (int j = 0; j < values.length; j++) {
                for (Object a : values[i]) {
                    for (Object b : values[j]) {
                        compareWithin(a, b, Integer.compare(i, j));
                        if (classOf(a) == classOf(b)) {
                            compare(a, b, Integer.compare(i, j));
                        }
                    }
                }
            }
        }
    }

    private static void ascendingOnes(Object... values) {
        Object[][] ones = new Object[values.length][];
        for (int i = 0; i < values.length; i++) {
            ones[i] = new Object[] {values[i]};
        }
        ascending(ones);
    }

    private static int classOf(Object value) {
        int kind = Doc.kind(value);
        return kind == 18 ? 16 : kind;
    }

    /** Two values of one class: the conditions ask for their order. */
    private static void compare(Object a, Object b, int order) {
        // $lte and $gte are $eq with NOTHING, and items that are rows are compared beside their row.
        if (a == null || hasRow(a)) {
            return;
        }
        Check.on("$eq", b, a, order == 0);
        Check.on("$lt", b, a, order < 0);
        Check.on("$lte", b, a, order <= 0);
        Check.on("$gt", b, a, order > 0);
        Check.on("$gte", b, a, order >= 0);
    }

    private static boolean hasRow(Object value) {
        if (!(value instanceof Doc) || !((Doc) value).row) {
            return false;
        }
        return ((Doc) value).values.stream().anyMatch(item -> item instanceof Doc && ((Doc) item).row);
    }

    /** Two values of any classes, as they order the documents and the rows that they stand in. */
    private static void compareWithin(Object a, Object b, int order) {
        compare(Doc.of("x", a), Doc.of("x", b), order);
        compare(Doc.of("x", Doc.row(0, a)), Doc.of("x", Doc.row(0, b)), order);
    }

    private static void classes() {
        Object[] greatest = {null, Long.MAX_VALUE, "\udbff\udfff\udbff\udfff", Doc.of("\udbff\udfff", true),
            Doc.row(true, true), true};
        Object[] least = {null, Long.MIN_VALUE, "", Doc.of(), Doc.row(), false};
        for (int i = 0; i < 6; i++) {
            for (int j = 0; j < 6; j++) {
                if (i != j) {
                    compareWithin(greatest[i], least[j], Integer.compare(i, j));
                    ofAnotherClass(greatest[i], least[j]);
                    ofAnotherClass(least[i], greatest[j]);
                }
            }
        }
        compareWithin(Integer.MAX_VALUE, "", -1);
        compareWithin(Integer.MIN_VALUE, null, 1);
        // MISSING is of no other value's class, and less than NOTHING is not NOTHING.
        for (String name : new String[] {"$lt", "$gt"}) {
            for (Object v : least) {
                Check.onMissing(name, v, false);
            }
        }
        for (Object v : least) {
            Check.onMissing("$eq", v, v == null);
            Check.onMissing("$lte", v, v == null);
            Check.onMissing("$gte", v, v == null);
        }
    }

    private static void ofAnotherClass(Object a, Object b) {
        for (String name : new String[] {"$eq", "$lt", "$lte", "$gt", "$gte"}) {
            boolean itemsAside = !(a instanceof Doc && ((Doc) a).row);
            if (itemsAside) {
                Check.on(name, b, a, false);
            }
        }
    }

    private static void numbers() {
        ascending(
            new Object[] {Long.MIN_VALUE},
            new Object[] {Long.MIN_VALUE + 1},
            new Object[] {-4294967297L},
            new Object[] {-4294967296L},
            new Object[] {-2147483649L},
            new Object[] {Integer.MIN_VALUE, (long) Integer.MIN_VALUE},
            new Object[] {Integer.MIN_VALUE + 1},
            new Object[] {-256, -256L},
            new Object[] {-1, -1L},
            new Object[] {0, 0L},
            new Object[] {1, 1L},
            new Object[] {255},
            new Object[] {256L},
            new Object[] {Integer.MAX_VALUE - 1},
            new Object[] {Integer.MAX_VALUE, (long) Integer.MAX_VALUE},
            new Object[] {2147483648L},
            new Object[] {4294967295L},
            new Object[] {4294967296L},
            new Object[] {4294967297L},
            new Object[] {Long.MAX_VALUE - 1},
            new Object[] {Long.MAX_VALUE});
    }

    private static void texts() {
        ascendingOnes("", "\0", "\0\0", "\0a", "\1", "A", "B", "a", "a\0", "a\0b", "aa", "ab", "b", "\u007f", "\u0080",
            "\u00e4", "\u00e4a", "\u07ff", "\u0800", "\u20ac", "\ud7ff", "\ue000", "\uffff", "\ud800\udc00",
            "\udbff\udfff");
        ascendingOnes(xs(899), xs(900), xs(900) + "a", xs(900) + "b", xs(901));
        ascendingOnes(xs(255), xs(256), xs(257));
    }

    private static String xs(int length) {
        char[] characters = new char[length];
        Arrays.fill(characters, 'x');
        return new String(characters);
    }

    private static void documents() {
        // The class of the first element goes before its name, the name before its value.
        ascending(
            new Object[] {Doc.of("z", null)},
            new Object[] {Doc.of("a", 9)},
            new Object[] {Doc.of("b", -1), Doc.of("b", -1L)},
            new Object[] {Doc.of("b", 1), Doc.of("b", 1L)},
            new Object[] {Doc.of("bb", 0)},
            new Object[] {Doc.of("a", "z")},
            new Object[] {Doc.of("b", "")},
            new Object[] {Doc.of("", Doc.of("z", true))},
            new Object[] {Doc.of("a", Doc.of())},
            new Object[] {Doc.of("a", Doc.of("a", 1))},
            new Object[] {Doc.of("\u007f", Doc.of())},
            new Object[] {Doc.of("\u0080", Doc.of())},
            new Object[] {Doc.of("\uffff", Doc.of())},
            new Object[] {Doc.of("\ud800\udc00", Doc.of())},
            new Object[] {Doc.of("", Doc.row())},
            new Object[] {Doc.of("a", Doc.row())},
            new Object[] {Doc.of("", false)},
            new Object[] {Doc.of("", true)},
            new Object[] {Doc.of("a", false)});
        // The second element is asked when the first ones are the same.
        ascendingOnes(Doc.of("x", 1, "z", null), Doc.of("x", 1, "b", 5), Doc.of("x", 1, "c", 4), Doc.of("x", 1, "c", 5),
            Doc.of("x", 1, "a", "a"), Doc.of("x", 2, "a", null));
        compare(Doc.of("a", 1, "b", 2), Doc.of("b", 2, "a", 1), -1);
        compare(Doc.of("a", 1, "b", 2), Doc.of("a", 1, "b", 2), 0);
        compare(Doc.of("a", Doc.of("b", 1)), Doc.of("a", Doc.of("b", 2)), -1);
        compare(Doc.of("", 1), Doc.of("a", 1), -1);
    }

    private static void rows() {
        ascending(
            new Object[] {Doc.row((Object) null)},
            new Object[] {Doc.row(1), Doc.row(1L)},
            new Object[] {Doc.row(2)},
            new Object[] {Doc.row("a")},
            new Object[] {Doc.row(Doc.of())},
            new Object[] {Doc.row(Doc.of("a", 1))},
            new Object[] {Doc.row(Doc.row())},
            new Object[] {Doc.row(Doc.row(1))},
            new Object[] {Doc.row(false)},
            new Object[] {Doc.row(true)});
        ascendingOnes(Doc.row(1, null), Doc.row(1, 1), Doc.row(1, 2), Doc.row(1, "a"), Doc.row(2, null));
        Doc low = Doc.row();
        Doc high = Doc.row();
        for (int i = 0; i < 12; i++) {
            low.item(i);
            high.item(i == 11 ? 12 : i);
        }
        compare(low, high, -1);
        compare(high, low, 1);
        compare(high, high, 0);
    }

    private static void endsFirst() {
        ascendingOnes(Doc.of(), Doc.of("a", null), Doc.of("a", null, "b", null), Doc.of("a", null, "b", null, "c", true),
            Doc.of("a", null, "b", 1), Doc.of("a", 1), Doc.of("a", 1, "b", null), Doc.of("a", 2));
        ascendingOnes(Doc.row(), Doc.row((Object) null), Doc.row(null, null), Doc.row(null, null, true),
            Doc.row(null, 1), Doc.row(1), Doc.row(1, null), Doc.row(2));
    }

    private static void truths() {
        ascendingOnes(false, true);
    }

    private static void same() {
        Object[] values = {null, 0, 0L, -1, -1L, Integer.MIN_VALUE, Long.MAX_VALUE, "", "a", Doc.of(), Doc.of("a", 1),
            Doc.of("a", 1L), Doc.row(), Doc.row(1), Doc.row(1L), false, true};
        for (int i = 0; i < values.length; i++) {
            for (int j = 0; j < values.length; j++) {
                boolean same = written(values[i]).equals(written(values[j]));
                Check.on("$eq", Doc.of("x", values[j]), Doc.of("x", values[i]), same);
                Check.on("$ne", Doc.of("x", values[j]), Doc.of("x", values[i]), !same);
            }
        }
        Check.on("$eq", 7, 7L, true);
        Check.on("$eq", 7L, 7, true);
        Check.on("$eq", 7, 4294967303L, false);
        Check.on("$eq", Doc.of("b", Doc.row(7L, 1)), Doc.of("b", Doc.row(7, 1L)), true);
        Check.on("$eq", Doc.of("b", Doc.row(7L, 1)), Doc.of("b", Doc.row(7, 2L)), false);
    }

    /** The value with its class, and without the kind of its numbers. */
    private static String written(Object value) {
        return classOf(value) + " " + ("" + value).replace("L", "");
    }
}
