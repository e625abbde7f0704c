import java.util.List;

/** The terms FILTER and CONDITIONS, sentence by sentence: when a filter holds. */
public final class HoldTest {
    private static final String FILTER = "Terms: FILTER";
    private static final String CONDITIONS = "Terms: CONDITIONS";

    public static void main(String[] args) {
        Sentence.testAll(sentences());
    }

    static List<Sentence> sentences() {
        return List.of(
            new Sentence(FILTER, "A FILTER is a document (none of its names is $and, $or, $nor, but for this): "
                + "each of its elements has to HOLD.", HoldTest::eachElement),
            new Sentence(FILTER, "Its name is $and, $or or $nor: its value is a row of filters, at least one",
                HoldTest::rowsOfFilters),
            new Sentence(FILTER, "all of them hold for the document", HoldTest::and),
            new Sentence(FILTER, "some of them does", HoldTest::or),
            new Sentence(FILTER, "none of them does.", HoldTest::nor),
            new Sentence(FILTER, "Its name is a path, none of whose steps begins with $: its value is CONDITIONS, which "
                + "is a document whose first name begins with $, or any other value v: that is $eq v alone.",
                HoldTest::pathsAndValues),
            new Sentence(FILTER, "Each condition has to hold on its own, by the LEAVES of the path at the document",
                HoldTest::eachConditionOnItsOwn),
            new Sentence(FILTER, "where there is no leaf, MISSING is one.", HoldTest::whereThereIsNoLeaf),
            new Sentence(CONDITIONS, "CONDITIONS, each by its name and value v:", HoldTest::eachByItsName),
            new Sentence(CONDITIONS, "$eq: some leaf, or some item of a leaf that is a row, is the SAME as v",
                HoldTest::eq),
            new Sentence(CONDITIONS, "with NOTHING as v also when a leaf is MISSING.", HoldTest::eqNothing),
            new Sentence(CONDITIONS, "$ne: not so.", HoldTest::ne),
            new Sentence(CONDITIONS, "$in: v is a row, and $eq of some item of it holds", HoldTest::in),
            new Sentence(CONDITIONS, "$nin: not so.", HoldTest::nin),
            new Sentence(CONDITIONS, "$lt, $lte, $gt, $gte: some leaf, or some item of a leaf that is a row, is of v's "
                + "class and less than v, not greater, greater, not less", HoldTest::lessAndGreater),
            new Sentence(CONDITIONS, "with NOTHING as v $lte and $gte are $eq.", HoldTest::lessAndGreaterNothing),
            new Sentence(CONDITIONS, "$exists: v is a truth; 1: some leaf is not MISSING, 0: none is.", HoldTest::exists),
            new Sentence(CONDITIONS, "$size: v is a number from 0 on; some leaf is a row with so many items.",
                HoldTest::size),
            new Sentence(CONDITIONS, "$elem: v is a document; some leaf is a row that has an item for which v holds",
                HoldTest::elem),
            new Sentence(CONDITIONS, "if v is CONDITIONS with no $and, $or, $nor as its first name, each of them has to "
                + "hold with the item as the only leaf", HoldTest::elemConditions),
            new Sentence(CONDITIONS, "otherwise v is a filter, and the item a document for which it holds.",
                HoldTest::elemFilter),
            new Sentence(CONDITIONS, "$not: v is CONDITIONS; not all of them hold.", HoldTest::not));
    }

    private static void holds(Doc filter, Doc document, boolean want) {
        Check.holds(filter, document, want);
    }

    private static void on(String name, Object v, Object value, boolean want) {
        Check.on(name, v, value, want);
    }

    private static void onMissing(String name, Object v, boolean want) {
        Check.onMissing(name, v, want);
    }

    /** A row of documents, each with one of the values as its b. */
    private static Doc manyB(Object... values) {
        Doc row = Doc.row();
        for (Object value : values) {
            row.item(Doc.of("b", value));
        }
        return Doc.of("a", row);
    }

    private static void onB(String name, Object v, Doc document, boolean want) {
        holds(Doc.of("a.b", Doc.of(name, v)), document, want);
    }

    private static void eachElement() {
        holds(Doc.of(), Doc.of(), true);
        holds(Doc.of(), Doc.of("a", 1, "b", Doc.row(1)), true);
        for (int bits = 0; bits < 8; bits++) {
            Doc document = Doc.of("a", bits & 1, "b", bits >> 1 & 1, "c", bits >> 2);
            holds(Doc.of("a", 1, "b", 1, "c", 1), document, bits == 7);
            holds(Doc.of("a", 1, "b", Doc.of("$lt", 1)), document, (bits & 3) == 1);
            holds(Doc.of("a", 1), document, (bits & 1) == 1);
            holds(Doc.of("$or", Doc.row(Doc.of("a", 1)), "b", 1), document, (bits & 3) == 3);
            holds(Doc.of("b", 1, "$or", Doc.row(Doc.of("a", 1))), document, (bits & 3) == 3);
        }
        Doc fifty = Doc.of();
        Doc document = Doc.of();
        for (int i = 0; i < 50; i++) {
            fifty.with("n" + i, i);
            document.with("n" + i, i);
        }
        holds(fifty, document, true);
        document.values.set(49, 0);
        holds(fifty, document, false);
    }

    private static void rowsOfFilters() {
        for (String join : new String[] {"$and", "$or", "$nor"}) {
            boolean one = !join.equals("$nor");
            Check.faults(Doc.of(join, Doc.row()), 2, 4);
            holds(Doc.of(join, Doc.row(Doc.of())), Doc.of(), one);
            holds(Doc.of(join, Doc.row(Doc.of("a", 1))), Doc.of("a", 1), one);
            holds(Doc.of(join, Doc.row(Doc.of("a", 1))), Doc.of("a", 2), !one);
            // A filter among them has elements, each of which has to hold.
            holds(Doc.of(join, Doc.row(Doc.of("a", 1, "b", 1))), Doc.of("a", 1, "b", 2), !one);
            holds(Doc.of(join, Doc.row(Doc.of("a", 1, "b", 1))), Doc.of("a", 1, "b", 1), one);
            // They may be joined in turn.
            holds(Doc.of(join, Doc.row(Doc.of(join, Doc.row(Doc.of("a", 1))))), Doc.of("a", 1), true);
            // 150 of them.
            Doc many = Doc.row();
            for (int i = 0; i < 150; i++) {
                many.item(Doc.of());
            }
            holds(Doc.of(join, many), Doc.of(), one);
        }
        Doc seven = Doc.of("a", 1);
        for (int i = 0; i < 7; i++) {
            seven = Doc.of("$and", Doc.row(seven));
        }
        holds(seven, Doc.of("a", 1), true);
        holds(seven, Doc.of("a", 2), false);
    }

    /** Three filters of which those whose bits are set hold for {a: 1, b: 1, c: 1}. */
    private static void joined(String join, int wantedBits) {
        Doc ones = Doc.of("a", 1, "b", 1, "c", 1);
        for (int bits = 0; bits < 8; bits++) {
            Doc parts = Doc.row(Doc.of("a", bits & 1), Doc.of("b", bits >> 1 & 1), Doc.of("c", bits >> 2));
            boolean want = (wantedBits >> bits & 1) == 1;
            holds(Doc.of(join, parts), ones, want);
            holds(Doc.of("$and", Doc.row(Doc.of(join, parts))), ones, want);
            holds(Doc.of("$or", Doc.row(Doc.of(join, parts))), ones, want);
            holds(Doc.of("$nor", Doc.row(Doc.of(join, parts))), ones, !want);
        }
    }

    private static void and() {
        joined("$and", 1 << 7);
    }

    private static void or() {
        joined("$or", 255 - 1);
        holds(Doc.of("$or", Doc.row(Doc.of("a", 1, "b", 2), Doc.of("a", 2, "b", 1))), Doc.of("a", 1, "b", 1), false);
    }

    private static void nor() {
        joined("$nor", 1);
    }

    private static void pathsAndValues() {
        Object[] alone = {0, 5L, true, false, "", "$x", Doc.of(), Doc.of("b", 1), Doc.of("b", 1, "$gt", 2), Doc.of("", 1),
            Doc.row(), Doc.row(1, 2), Doc.row(Doc.of("$gt", 1)), null};
        for (Object value : alone) {
            holds(Doc.of("a", value), Doc.of("a", value), true);
            holds(Doc.of("a", value), Doc.of("a", Doc.row("other", value)), true);
            holds(Doc.of("a", value), Doc.of("a", "another"), false);
            holds(Doc.of("a", value), Doc.of("b", value), value == null);
        }
        // The first name tells whether these are conditions, whatever the others are.
        holds(Doc.of("a", Doc.of("$gt", 1)), Doc.of("a", 2), true);
        holds(Doc.of("a", Doc.of("$gt", 1)), Doc.of("a", Doc.of("$gt", 1)), false);
        Check.faults(Doc.of("a", Doc.of("$", 1)), 1, 11);
        Check.faults(Doc.of("a", Doc.of("$gt", 1, "b", 1)), 1, 20);
        Check.right(Doc.of("a", Doc.of("b", 1, "$x", 1)));
        holds(Doc.of("a", Doc.of("b", 1, "$x", 1)), Doc.of("a", Doc.of("b", 1, "$x", 1)), true);
        // None of the steps, the first, one between or the last, begins with $; later letters may be.
        Check.faults(Doc.of("$a.b", 1), 1, 4);
        for (String path : new String[] {"a.$b", "a.$", "a.$b.c", "a.b.c.d.e.f.g.$h", "a.$and"}) {
            Check.faults(Doc.of(path, 1), 3, 4);
        }
        for (String path : new String[] {"a$", "a$b.c$", "a.b$", "a.b$$.c"}) {
            Check.right(Doc.of(path, 1));
        }
        holds(Doc.of("a$.b$", 1), Doc.of("a$", Doc.of("b$", 1)), true);
    }

    private static void eachConditionOnItsOwn() {
        Doc between = Doc.of("a", Doc.of("$gt", 1, "$lt", 3));
        for (int i = 0; i <= 4; i++) {
            holds(between, Doc.of("a", i), i == 2);
        }
        // By different items, and by different leaves.
        holds(Doc.of("a", Doc.of("$gt", 3, "$lt", 2)), Doc.of("a", Doc.row(1, 4)), true);
        holds(Doc.of("a", Doc.of("$gt", 3, "$lt", 2)), Doc.of("a", Doc.row(2, 4)), false);
        holds(Doc.of("a.b", Doc.of("$gt", 3, "$lt", 2)), manyB(1, 4), true);
        holds(Doc.of("a.b", Doc.of("$gt", 3, "$lt", 2)), manyB(1, 3), false);
        holds(Doc.of("a", Doc.of("$eq", 1, "$ne", 1)), Doc.of("a", 1), false);
        // Of three, each one may be the one that does not hold.
        for (int i = 0; i < 3; i++) {
            Doc three = Doc.of("$gt", i == 0 ? 5 : 0, "$lt", i == 1 ? 5 : 9, "$ne", i == 2 ? 5 : 1);
            holds(Doc.of("a", three), Doc.of("a", 5), false);
        }
        holds(Doc.of("a", Doc.of("$gt", 0, "$lt", 9, "$ne", 1)), Doc.of("a", 5), true);
        Doc all = Doc.of("$eq", 5, "$ne", 6, "$lt", 6, "$lte", 5, "$gt", 4, "$gte", 5, "$in", Doc.row(5));
        all.with("$nin", Doc.row(6)).with("$exists", true).with("$size", 1).with("$elem", Doc.of("$eq", 5)).with("$not", Doc.of("$eq", 6));
        holds(Doc.of("a", all), Doc.of("a", Doc.row(5)), true);
        holds(Doc.of("a", all), Doc.of("a", 5), false);
    }

    private static void whereThereIsNoLeaf() {
        Doc document = Doc.of("a", Doc.row(1, 2));
        Doc[] holding = {Doc.of("$eq", null), Doc.of("$lte", null), Doc.of("$gte", null), Doc.of("$ne", 1),
            Doc.of("$in", Doc.row(1, null)), Doc.of("$nin", Doc.row(1)), Doc.of("$exists", false),
            Doc.of("$not", Doc.of("$eq", 1)), Doc.of("$not", Doc.of("$exists", true))};
        Doc[] others = {Doc.of("$eq", 1), Doc.of("$ne", null), Doc.of("$lt", null), Doc.of("$gt", null), Doc.of("$lt", 9),
            Doc.of("$lte", 9), Doc.of("$gt", 0), Doc.of("$gte", 0), Doc.of("$in", Doc.row()), Doc.of("$in", Doc.row(1)),
            Doc.of("$nin", Doc.row(1, null)), Doc.of("$exists", true), Doc.of("$size", 0), Doc.of("$elem", Doc.of()),
            Doc.of("$elem", Doc.of("$exists", false)), Doc.of("$not", Doc.of("$eq", null)),
            Doc.of("$not", Doc.of("$exists", false))};
        // There is no leaf of a.b; there is one leaf MISSING of c, and of a.0.b.
        for (String path : new String[] {"a.b", "a.2", "a.b.c", "c", "a.0.b"}) {
            for (Doc conditions : holding) {
                holds(Doc.of(path, conditions), document, true);
            }
            for (Doc conditions : others) {
                holds(Doc.of(path, conditions), document, false);
            }
        }
    }

    private static void eachByItsName() {
        // One value, one leaf: each name answers as its own sentence says.
        String[] names = {"$eq", "$ne", "$lt", "$lte", "$gt", "$gte"};
        boolean[][] want = {{false, true, true, true, false, false}, {true, false, false, true, false, true},
            {false, true, false, false, true, true}};
        for (int value = 0; value < 3; value++) {
            for (int i = 0; i < names.length; i++) {
                on(names[i], 1, value, want[value][i]);
            }
        }
        for (String name : new String[] {"$equ", "$EQ", "$lts", "$", "$elemMatch", "$nor", "$inn", "$exist", "eq"}) {
            Check.faults(Doc.of("a", Doc.of("$ne", 1, name, 1)), 1, 20);
        }
    }

    private static void eq() {
        on("$eq", 5, 5, true);
        on("$eq", 5, 5L, true);
        on("$eq", 5, 4, false);
        on("$eq", 5, 6, false);
        onMissing("$eq", 5, false);
        on("$eq", 5, Doc.row(), false);
        on("$eq", 5, Doc.row(5, 1), true);
        on("$eq", 5, Doc.row(1, 5), true);
        on("$eq", 5, Doc.row(1, 4), false);
        on("$eq", 5, Doc.row(Doc.row(5)), false);
        on("$eq", Doc.row(1, 5), Doc.row(1, 5), true);
        on("$eq", Doc.row(1, 5), Doc.row(2, Doc.row(1, 5)), true);
        on("$eq", Doc.row(1, 5), Doc.row(1, 5, 6), false);
        on("$eq", Doc.row(), Doc.row(), true);
        on("$eq", Doc.row(), Doc.row(Doc.row()), true);
        on("$eq", Doc.of("b", 1), Doc.of("b", 1), true);
        on("$eq", Doc.of("b", 1), Doc.row(Doc.of("b", 1)), true);
        on("$eq", Doc.of("b", 1, "c", 2), Doc.of("c", 2, "b", 1), false);
        on("$eq", Doc.of("$gt", 1), 2, false);
        on("$eq", Doc.of("$gt", 1), Doc.of("$gt", 1), true);
        onB("$eq", 5, manyB(5, 1), true);
        onB("$eq", 5, manyB(1, 5), true);
        onB("$eq", 5, manyB(1, Doc.row(1, 5)), true);
        onB("$eq", 5, manyB(1, 4), false);
    }

    private static void eqNothing() {
        onMissing("$eq", null, true);
        on("$eq", null, null, true);
        Object[] others = {0, 0L, false, "", Doc.of(), Doc.row(), Doc.row(1), Doc.row(Doc.row((Object) null))};
        for (Object other : others) {
            on("$eq", null, other, false);
        }
        on("$eq", null, Doc.row(1, null), true);
        onB("$eq", null, manyB(1, null), true);
        onB("$eq", null, manyB(1, 2), false);
        holds(Doc.of("a.b", null), Doc.of("a", Doc.row(Doc.of("b", 1), Doc.of("c", 1))), true);
        holds(Doc.of("a.b", null), Doc.of("a", Doc.row(Doc.of("b", 1), 7)), false);
        // NOTHING alone makes MISSING so.
        for (Object v : new Object[] {0, false, "", Doc.of(), Doc.row()}) {
            onMissing("$eq", v, false);
        }
    }

    private static void ne() {
        on("$ne", 5, 5, false);
        on("$ne", 5, 5L, false);
        on("$ne", 5, 4, true);
        on("$ne", 5, "5", true);
        onMissing("$ne", 5, true);
        on("$ne", 5, Doc.row(), true);
        on("$ne", 5, Doc.row(1, 5), false);
        on("$ne", 5, Doc.row(1, 4), true);
        on("$ne", 5, Doc.row(Doc.row(5)), true);
        onB("$ne", 5, manyB(1, 5), false);
        onB("$ne", 5, manyB(1, 4), true);
        onMissing("$ne", null, false);
        on("$ne", null, null, false);
        on("$ne", null, 0, true);
        onB("$ne", null, manyB(1, null), false);
    }

    private static void in() {
        on("$in", Doc.row(), 1, false);
        on("$in", Doc.row(), null, false);
        on("$in", Doc.row(), Doc.row(), false);
        onMissing("$in", Doc.row(), false);
        Doc wanted = Doc.row(1, "x", Doc.row(7), Doc.of("$gt", 5));
        on("$in", wanted, 1L, true);
        on("$in", wanted, "x", true);
        on("$in", wanted, Doc.of("$gt", 5), true);
        on("$in", wanted, 2, false);
        on("$in", wanted, 6, false);
        on("$in", wanted, Doc.row(3, "x"), true);
        on("$in", wanted, Doc.row(3, 7), false);
        on("$in", wanted, Doc.row(7), true);
        on("$in", wanted, wanted, true);
        on("$in", wanted, Doc.row(Doc.row(1)), false);
        onMissing("$in", wanted, false);
        onMissing("$in", Doc.row(1, null), true);
        onMissing("$in", Doc.row(null, 1), true);
        on("$in", Doc.row(1, null), null, true);
        onB("$in", Doc.row(8, 9), manyB(1, 9), true);
        onB("$in", Doc.row(8, 9), manyB(1, 2), false);
        Doc many = Doc.row();
        for (int i = 0; i < 150; i++) {
            many.item(i);
        }
        on("$in", many, 149, true);
        on("$in", many, 150, false);
    }

    private static void nin() {
        on("$nin", Doc.row(), 1, true);
        onMissing("$nin", Doc.row(), true);
        Doc wanted = Doc.row(1, "x", Doc.row(7));
        on("$nin", wanted, 1L, false);
        on("$nin", wanted, "x", false);
        on("$nin", wanted, 2, true);
        on("$nin", wanted, Doc.row(3, "x"), false);
        on("$nin", wanted, Doc.row(3, 7), true);
        onMissing("$nin", Doc.row(1, null), false);
        onMissing("$nin", Doc.row(1), true);
        onB("$nin", Doc.row(8, 9), manyB(1, 9), false);
        onB("$nin", Doc.row(8, 9), manyB(1, 2), true);
    }

    /** What the four conditions with v answer on a value: 1 and 0 in the order $lt, $lte, $gt, $gte. */
    private static void four(Object v, Object value, String want) {
        String[] names = {"$lt", "$lte", "$gt", "$gte"};
        for (int i = 0; i < 4; i++) {
            on(names[i], v, value, want.charAt(i) == '1');
        }
    }

    private static void lessAndGreater() {
        four(5, 4, "1100");
        four(5, 5, "0101");
        four(5, 5L, "0101");
        four(5, 6, "0011");
        four("b", "a", "1100");
        four("b", "b", "0101");
        four("b", "c", "0011");
        four(true, false, "1100");
        four(true, true, "0101");
        four(false, true, "0011");
        four(Doc.of("b", 2), Doc.of("b", 1), "1100");
        four(Doc.of("b", 2), Doc.of("b", 2), "0101");
        four(Doc.of("b", 2), Doc.of("b", 3), "0011");
        four(Doc.row(2), Doc.row(1), "1100");
        four(Doc.row(2), Doc.row(2), "0101");
        four(Doc.row(2), Doc.row(3), "0011");
        // Another class is neither less nor greater.
        Object[] ofEach = {5, "b", true, Doc.of("b", 2)};
        for (Object v : ofEach) {
            for (Object value : ofEach) {
                if (v != value) {
                    four(v, value, "0000");
                    four(Doc.row(v), value, "0000");
                }
            }
            four(v, null, "0000");
            four(v, Doc.row(), "0000");
            for (String name : new String[] {"$lt", "$lte", "$gt", "$gte"}) {
                onMissing(name, v, false);
            }
        }
        // Items too, each by itself, but not their items.
        four(5, Doc.row(4, 6), "1111");
        four(5, Doc.row("z", 4), "1100");
        four(5, Doc.row(6, "a"), "0011");
        four(5, Doc.row("z", 5L), "0101");
        four(5, Doc.row(Doc.row(4)), "0000");
        four(Doc.row(2), Doc.row(9, Doc.row(1)), "1111");
        four(Doc.row(2), Doc.row(9, Doc.row(3)), "0011");
        onB("$lt", 5, manyB(9, 4), true);
        onB("$lt", 5, manyB(9, 5), false);
        onB("$gte", 5, manyB(1, 5), true);
    }

    private static void lessAndGreaterNothing() {
        for (String name : new String[] {"$lte", "$gte"}) {
            onMissing(name, null, true);
            on(name, null, null, true);
            on(name, null, 0, false);
            on(name, null, false, false);
            on(name, null, "", false);
            on(name, null, Doc.row(), false);
            on(name, null, Doc.row(1, null), true);
            on(name, null, Doc.row(Doc.row((Object) null)), false);
            onB(name, null, manyB(1, null), true);
            onB(name, null, manyB(1, 2), false);
            holds(Doc.of("a.b", Doc.of(name, null)), Doc.of("a", Doc.row(Doc.of("b", 1), Doc.of())), true);
        }
        for (String name : new String[] {"$lt", "$gt"}) {
            onMissing(name, null, false);
            on(name, null, null, false);
            on(name, null, 0, false);
            on(name, null, Doc.row(1, null), false);
        }
    }

    private static void exists() {
        for (Object value : new Object[] {1, 0, null, false, "", Doc.of(), Doc.row()}) {
            on("$exists", true, value, true);
            on("$exists", false, value, false);
        }
        onMissing("$exists", true, false);
        onMissing("$exists", false, true);
        Doc some = Doc.of("a", Doc.row(Doc.of("b", 1), Doc.of()));
        onB("$exists", true, some, true);
        onB("$exists", false, some, false);
        Doc last = Doc.of("a", Doc.row(Doc.of(), Doc.of("b", null)));
        onB("$exists", true, last, true);
        onB("$exists", false, last, false);
        Doc none = Doc.of("a", Doc.row(Doc.of("c", 1), Doc.of(), 5));
        onB("$exists", true, none, false);
        onB("$exists", false, none, true);
        for (Object v : new Object[] {0, 1, 1L, null, "", Doc.of(), Doc.row()}) {
            Check.faults(Doc.of("a", Doc.of("$exists", v)), 4, 11);
        }
    }

    private static void size() {
        Doc row = Doc.row();
        for (int items = 0; items <= 12; items++) {
            for (int v = 0; v <= 13; v++) {
                on("$size", v, row, v == items);
                on("$size", (long) v, row, v == items);
            }
            on("$size", 4294967296L + items, row, false);
            row.item(items);
        }
        for (Object v : new Object[] {-1, -1L, Integer.MIN_VALUE, Long.MIN_VALUE, null, "0", true, false, Doc.of(),
            Doc.row()}) {
            Check.faults(Doc.of("a", Doc.of("$size", v)), 4, 11);
        }
        for (Object v : new Object[] {0, 0L, 1, Integer.MAX_VALUE, Long.MAX_VALUE}) {
            Check.right(Doc.of("a", Doc.of("$size", v)));
            on("$size", v, Doc.row(1, 2), false);
        }
        for (Object value : new Object[] {0, null, "", false, Doc.of()}) {
            on("$size", 0, value, false);
        }
        onMissing("$size", 0, false);
        // A row among the items is no leaf.
        on("$size", 2, Doc.row(Doc.row(1, 2)), false);
        on("$size", 0, Doc.row(Doc.row()), false);
        onB("$size", 2, manyB(Doc.row(1), Doc.row(1, 2)), true);
        onB("$size", 2, manyB(Doc.row(1, 2), Doc.row(1)), true);
        onB("$size", 3, manyB(Doc.row(1, 2), Doc.row(1)), false);
    }

    private static void elem() {
        on("$elem", Doc.of("$gt", 1), Doc.row(), false);
        on("$elem", Doc.of("$gt", 1), Doc.row(1), false);
        on("$elem", Doc.of("$gt", 1), Doc.row(2), true);
        on("$elem", Doc.of("$gt", 1), Doc.row(2, 0, 0), true);
        on("$elem", Doc.of("$gt", 1), Doc.row(0, 0, 2), true);
        for (Object value : new Object[] {2, null, "2", true, Doc.of("b", 2), Doc.of("0", 2)}) {
            on("$elem", Doc.of("$gt", 1), value, false);
            on("$elem", Doc.of("b", 2), value, false);
            on("$elem", Doc.of(), value, false);
        }
        onMissing("$elem", Doc.of(), false);
        onMissing("$elem", Doc.of("$exists", false), false);
        onB("$elem", Doc.of("$eq", 3), manyB(Doc.row(1), Doc.row(2, 3)), true);
        onB("$elem", Doc.of("$eq", 1), manyB(Doc.row(1), Doc.row(2, 3)), true);
        onB("$elem", Doc.of("$eq", 4), manyB(Doc.row(1), Doc.row(2, 3)), false);
        onB("$elem", Doc.of("$eq", 4), manyB(4), false);
        for (Object v : new Object[] {1, 1L, null, "", true, Doc.row(), Doc.row(Doc.of("$eq", 1))}) {
            Check.faults(Doc.of("a", Doc.of("$elem", v)), 4, 11);
        }
        deepestElem();
    }

    /** $elem in $elem as deep as a document may be, on a row as deep. */
    private static void deepestElem() {
        Object value = 1;
        Doc filter = Doc.of("$eq", 1);
        for (int i = 0; i < 14; i++) {
            value = Doc.row(0, value);
            filter = Doc.of("$elem", filter);
        }
        holds(Doc.of("a", filter), Doc.of("a", value), true);
        // The last item is a row there, and $eq looks at its items too.
        holds(Doc.of("a", filter), Doc.of("a", Doc.row(value)), true);
        holds(Doc.of("a", filter), Doc.of("a", ((Doc) value).values.get(1)), false);
        Doc steps = Doc.of("0.0", 7);
        Doc document = Doc.of("0", Doc.row(7));
        for (int i = 0; i < 7; i++) {
            steps = Doc.of("0", Doc.of("$elem", steps));
            document = Doc.of("0", Doc.row(document));
        }
        holds(steps, document, true);
    }

    private static void elemConditions() {
        // Each of them by one item, not by several.
        on("$elem", Doc.of("$gt", 1, "$lt", 3), Doc.row(0, 2), true);
        on("$elem", Doc.of("$gt", 1, "$lt", 3), Doc.row(0, 4), false);
        on("$elem", Doc.of("$gt", 1, "$lt", 3), Doc.row(1, 3), false);
        on("$elem", Doc.of("$size", 1, "$eq", 5), Doc.row(Doc.row(5)), true);
        on("$elem", Doc.of("$size", 1, "$eq", 5), Doc.row(Doc.row(4)), false);
        on("$elem", Doc.of("$size", 1, "$eq", 5), Doc.row(Doc.row(4), Doc.row(5, 6)), false);
        // The item is the leaf, and its items are a leaf's items.
        on("$elem", Doc.of("$eq", 1), Doc.row(0, Doc.row(1)), true);
        on("$elem", Doc.of("$eq", 1), Doc.row(0, Doc.row(Doc.row(1))), false);
        on("$elem", Doc.of("$eq", Doc.of("b", 1)), Doc.row(Doc.of("b", 1)), true);
        on("$elem", Doc.of("$size", 1), Doc.row(0, Doc.row(1)), true);
        on("$elem", Doc.of("$size", 2), Doc.row(0, Doc.row(1)), false);
        on("$elem", Doc.of("$exists", true), Doc.row((Object) null), true);
        on("$elem", Doc.of("$exists", true), Doc.row(), false);
        on("$elem", Doc.of("$exists", false), Doc.row(0, null), false);
        on("$elem", Doc.of("$eq", null), Doc.row(0, 1), false);
        on("$elem", Doc.of("$eq", null), Doc.row(0, null), true);
        on("$elem", Doc.of("$ne", 1), Doc.row(1, 1), false);
        on("$elem", Doc.of("$ne", 1), Doc.row(1, 2), true);
        on("$elem", Doc.of("$elem", Doc.of("$eq", 1)), Doc.row(0, Doc.row(1)), true);
        on("$elem", Doc.of("$elem", Doc.of("$eq", 1)), Doc.row(0, 1), false);
        on("$elem", Doc.of("$not", Doc.of("$eq", 1)), Doc.row(1, 1), false);
        on("$elem", Doc.of("$not", Doc.of("$eq", 1)), Doc.row(1, 2), true);
        on("$elem", Doc.of("$in", Doc.row(3, 4)), Doc.row(1, 4), true);
        // $and, $or, $nor as a later name are a fault, not a filter.
        Check.faults(Doc.of("a", Doc.of("$elem", Doc.of("$eq", 1, "$or", Doc.row(Doc.of())))), 1, 31);
        Check.faults(Doc.of("a", Doc.of("$elem", Doc.of("$eq", 1, "b", 1))), 1, 31);
    }

    private static void elemFilter() {
        on("$elem", Doc.of(), Doc.row(1, "a", null, Doc.row()), false);
        on("$elem", Doc.of(), Doc.row(1, Doc.of()), true);
        on("$elem", Doc.of("b", 1), Doc.row(1, Doc.of("b", 1)), true);
        on("$elem", Doc.of("b", 1), Doc.row(Doc.of("b", 2), Doc.of("b", 3)), false);
        on("$elem", Doc.of("b", 1, "c", 2), Doc.row(Doc.of("b", 1), Doc.of("c", 2)), false);
        on("$elem", Doc.of("b", 1, "c", 2), Doc.row(Doc.of("b", 1), Doc.of("c", 2, "b", 1)), true);
        // No document, no filter: NOTHING does not stand for MISSING in a number.
        on("$elem", Doc.of("b", null), Doc.row(1, 2), false);
        on("$elem", Doc.of("b", null), Doc.row(1, Doc.of()), true);
        on("$elem", Doc.of("0", 1), Doc.row(Doc.row(1)), false);
        on("$elem", Doc.of("b.0", 1), Doc.row(Doc.of("b", Doc.row(1))), true);
        for (String join : new String[] {"$and", "$or", "$nor"}) {
            boolean one = !join.equals("$nor");
            on("$elem", Doc.of(join, Doc.row(Doc.of("b", 1))), Doc.row(Doc.of("b", 1)), one);
            on("$elem", Doc.of(join, Doc.row(Doc.of("b", 1))), Doc.row(Doc.of("b", 2)), !one);
            on("$elem", Doc.of(join, Doc.row(Doc.of("b", 1))), Doc.row(1, 2), false);
            on("$elem", Doc.of(join, Doc.row(Doc.of())), Doc.row(Doc.row()), false);
            on("$elem", Doc.of(join, Doc.row(Doc.of("b", 1)), "c", 1), Doc.row(Doc.of("b", one ? 1 : 2, "c", 1)), true);
            on("$elem", Doc.of("c", 1, join, Doc.row(Doc.of("b", 1))), Doc.row(Doc.of("b", one ? 1 : 2, "c", 2)), false);
            Check.faults(Doc.of("a", Doc.of("$elem", Doc.of(join, Doc.row(Doc.of()), "$eq", 1))), 1,
                22 + 1 + join.length() + 1 + 5 + 3 + 5);
        }
    }

    private static void not() {
        on("$not", Doc.of("$gt", 1), 1, true);
        on("$not", Doc.of("$gt", 1), 2, false);
        on("$not", Doc.of("$gt", 1), "a", true);
        for (int i = 0; i <= 7; i++) {
            on("$not", Doc.of("$gt", 1, "$lt", 5), i, !(i > 1 && i < 5));
            on("$not", Doc.of("$gt", 1, "$lt", 5, "$ne", 3), i, !(i == 2 || i == 4));
        }
        on("$not", Doc.of("$not", Doc.of("$gt", 1)), 2, true);
        on("$not", Doc.of("$not", Doc.of("$gt", 1)), 1, false);
        on("$not", Doc.of("$eq", 1), Doc.row(1, 2), false);
        on("$not", Doc.of("$ne", 1), Doc.row(1, 2), true);
        // All of them by the leaves, each on its own: 1 and 6 make both hold.
        on("$not", Doc.of("$gt", 5, "$lt", 2), Doc.row(1, 6), false);
        onB("$not", Doc.of("$gt", 5, "$lt", 2), manyB(1, 6), false);
        onB("$not", Doc.of("$gt", 5, "$lt", 2), manyB(2, 6), true);
        onMissing("$not", Doc.of("$gt", 1), true);
        onMissing("$not", Doc.of("$exists", false), false);
        onMissing("$not", Doc.of("$eq", null), false);
        holds(Doc.of("a", Doc.of("$not", Doc.of("$gt", 5), "$gt", 2)), Doc.of("a", 3), true);
        holds(Doc.of("a", Doc.of("$not", Doc.of("$gt", 5), "$gt", 2)), Doc.of("a", 2), false);
        holds(Doc.of("a", Doc.of("$gt", 2, "$not", Doc.of("$gt", 5))), Doc.of("a", 6), false);
        for (Object v : new Object[] {1, null, "", true, Doc.of(), Doc.of("b", 1), Doc.of("b", 1, "$eq", 1), Doc.row(),
            Doc.row(Doc.of("$eq", 1))}) {
            Check.faults(Doc.of("a", Doc.of("$not", v)), 4, 11);
        }
        Doc nots = Doc.of("$eq", 1);
        for (int i = 0; i < 14; i++) {
            nots = Doc.of("$not", nots);
        }
        holds(Doc.of("a", nots), Doc.of("a", 1), true);
        holds(Doc.of("a", nots), Doc.of("a", 2), false);
        Object value = 7;
        Doc conditions = Doc.of("$not", Doc.of("$gt", 7, "$lt", 9));
        for (int i = 0; i < 13; i++) {
            value = Doc.row(value);
            conditions = Doc.of("$elem", conditions);
        }
        holds(Doc.of("a", conditions), Doc.of("a", value), true);
    }
}
