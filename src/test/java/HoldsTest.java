/** Promise 7: holds, with the order of values, paths, leaves and conditions. */
public final class HoldsTest {
    public static void main(String[] args) {
        wrongOnes();
        order();
        equal();
        lessAndGreater();
        nothing();
        in();
        exists();
        size();
        elem();
        not();
        joins();
        paths();
        rows();
        deepest();
        Check.end();
    }

    private static void expect(Doc filter, Doc document, boolean want) {
        Check.due(filter + " for " + document, Check.holds(filter, document), want ? 1 : 0);
    }

    /** Whether a condition holds on a of {a: value}. */
    private static void on(String name, Object v, Object value, boolean want) {
        expect(Doc.of("a", Doc.of(name, v)), Doc.of("a", value), want);
    }

    /** Whether a condition holds where there is no a. */
    private static void onMissing(String name, Object v, boolean want) {
        expect(Doc.of("a", Doc.of(name, v)), Doc.of("b", 1), want);
    }

    private static void wrongOnes() {
        FilterReader x = new FilterReader();
        int[] none = {-1, 4, 5, Integer.MIN_VALUE, Integer.MAX_VALUE};
        for (int i : none) {
            Check.due("holds(0, " + i + ")", x.holds(0, i), -1);
            Check.due("holds(" + i + ", 0)", x.holds(i, 0), -1);
            Check.due("holds(" + i + ", " + i + ")", x.holds(i, i), -1);
        }
    }

    /** All values in their order: the same ones in one row. */
    private static void order() {
        Object[][] ordered = {
            {null},
            {Long.MIN_VALUE},
            {-3000000000L},
            {Integer.MIN_VALUE, (long) Integer.MIN_VALUE},
            {-1, -1L},
            {0, 0L},
            {1, 1L},
            {Integer.MAX_VALUE},
            {4294967296L},
            {Long.MAX_VALUE},
            {""},
            {"\0"},
            {"\0\0"},
            {"A"},
            {"a"},
            {"a\0"},
            {"aa"},
            {"b"},
            {"\u007f"},
            {"\u0080"},
            {"ä"},
            {"€"},
            {"\uffff"},
            {"\ud800\udc00"},
            {Doc.of()},
            {Doc.of("z", null)},
            {Doc.of("z", null, "a", null)},
            {Doc.of("b", 1), Doc.of("b", 1L)},
            {Doc.of("b", 1, "a", null)},
            {Doc.of("b", 2)},
            {Doc.of("bb", 1)},
            {Doc.of("a", "x")},
            {Doc.of("a", "x", "b", 1)},
            {Doc.of("a", "x", "c", 1)},
            {Doc.of("a", Doc.of())},
            {Doc.of("a", Doc.of("a", 1))},
            {Doc.of("a", Doc.row())},
            {Doc.of("", true)},
            {Doc.of("a", false)},
            {Doc.of("a", true)},
            {Doc.of("ä", false)},
        };
        compareAll(ordered);
        // A row's items stand beside it: only rows of rows are compared without them.
        Object[][] rows = {
            {Doc.row()},
            {Doc.row((Object) null)},
            {Doc.row(null, null)},
            {Doc.row(1), Doc.row(1L)},
            {Doc.row(1, null)},
            {Doc.row(1, 2)},
            {Doc.row(2)},
            {Doc.row("a")},
            {Doc.row(Doc.of())},
            {Doc.row(Doc.of("a", 1))},
            {Doc.row(true)},
        };
        compareRows(rows);
        on("$lt", true, false, true);
        on("$gt", true, false, false);
        on("$gt", false, true, true);
        on("$eq", true, true, true);
        on("$eq", false, true, false);
    }

    private static void compareAll(Object[][] ordered) {
        for (int i = 0; i < ordered.length; i++) {
            for (int j = 0; j < ordered.length; j++) {
                for (Object a : ordered[i]) {
                    for (Object b : ordered[j]) {
                        compare(a, b, Integer.compare(i, j));
                    }
                }
            }
        }
    }

    private static void compare(Object a, Object b, int order) {
        boolean oneClass = classOf(a) == classOf(b);
        on("$eq", b, a, order == 0);
        on("$ne", b, a, order != 0);
        on("$lt", b, a, oneClass && order < 0);
        on("$lte", b, a, oneClass && order <= 0);
        on("$gt", b, a, oneClass && order > 0);
        on("$gte", b, a, oneClass && order >= 0);
        // Behind a common beginning the class is asked first, so one order goes for all.
        if (a != null && b != null) {
            on("$lt", Doc.of("x", b), Doc.of("x", a), order < 0);
            on("$gte", Doc.of("x", b), Doc.of("x", a), order >= 0);
            on("$eq", Doc.of("x", b), Doc.of("x", a), order == 0);
        }
    }

    private static int classOf(Object value) {
        int kind = Doc.kind(value);
        return kind == 18 ? 16 : kind;
    }

    private static void compareRows(Object[][] rows) {
        for (int i = 0; i < rows.length; i++) {
            for (int j = 0; j < rows.length; j++) {
                for (Object a : rows[i]) {
                    for (Object b : rows[j]) {
                        int order = Integer.compare(i, j);
                        on("$lt", Doc.of("x", b), Doc.of("x", a), order < 0);
                        on("$gt", Doc.of("x", b), Doc.of("x", a), order > 0);
                        on("$eq", b, a, order == 0);
                        on("$gt", b, a, order > 0);
                        on("$lte", b, a, order <= 0);
                    }
                }
            }
        }
    }

    private static void equal() {
        expect(Doc.of("a", 5), Doc.of("a", 5), true);
        expect(Doc.of("a", 5), Doc.of("a", 5L), true);
        expect(Doc.of("a", 5), Doc.of("a", 6), false);
        expect(Doc.of("a", 5), Doc.of("b", 5), false);
        expect(Doc.of("a", 5), Doc.of("a", Doc.row(1, 5)), true);
        expect(Doc.of("a", Doc.row(1, 5)), Doc.of("a", Doc.row(1, 5)), true);
        expect(Doc.of("a", Doc.row(1, 5)), Doc.of("a", Doc.row(2, Doc.row(1, 5))), true);
        expect(Doc.of("a", 5), Doc.of("a", Doc.row(Doc.row(5))), false);
        expect(Doc.of("a", Doc.of("b", 1, "c", 2)), Doc.of("a", Doc.of("b", 1, "c", 2)), true);
        expect(Doc.of("a", Doc.of("b", 1, "c", 2)), Doc.of("a", Doc.of("c", 2, "b", 1)), false);
        expect(Doc.of("a", Doc.of("b", 1, "$c", 2)), Doc.of("a", Doc.of("b", 1, "$c", 2)), true);
        expect(Doc.of("a", Doc.of()), Doc.of("a", Doc.of()), true);
        expect(Doc.of("a", Doc.of()), Doc.of("a", Doc.of("b", 1)), false);
        on("$eq", Doc.of("$gt", 1), 2, false);
        on("$eq", Doc.of("$gt", 1), Doc.of("$gt", 1), true);
        on("$ne", 1, Doc.row(1, 2), false);
        on("$ne", 1, Doc.row(2, 3), true);
        onMissing("$eq", 1, false);
        onMissing("$ne", 1, true);
        expect(Doc.of("a", Doc.of("$gt", 1, "$lt", 3)), Doc.of("a", 2), true);
        expect(Doc.of("a", Doc.of("$gt", 1, "$lt", 3)), Doc.of("a", 3), false);
        expect(Doc.of("a", Doc.of("$gt", 1, "$lt", 3)), Doc.of("a", 1), false);
        expect(Doc.of("a", Doc.of("$gt", 3, "$lt", 2)), Doc.of("a", Doc.row(1, 4)), true);
        expect(Doc.of("a", 1, "b", 2), Doc.of("b", 2, "a", 1), true);
        expect(Doc.of("a", 1, "b", 2), Doc.of("b", 1, "a", 1), false);
    }

    private static void lessAndGreater() {
        on("$lt", 5, Doc.row(9, 4), true);
        on("$lt", 5, Doc.row(9, 5), false);
        on("$lte", 5, Doc.row(9, 5), true);
        on("$gt", 5, Doc.row("z", 4), false);
        on("$gte", 5, Doc.row("z", 5L), true);
        on("$lt", Doc.row(2), Doc.row(1, 5), true);
        on("$lt", Doc.row(2), Doc.row(9, Doc.row(1)), true);
        on("$lt", Doc.row(2), Doc.row(9, Doc.row(2)), false);
        on("$gt", "a", 5, false);
        on("$lt", "a", 5, false);
        onMissing("$lt", 5, false);
        onMissing("$gt", 5, false);
        onMissing("$lte", 5, false);
        onMissing("$gte", 5, false);
    }

    private static void nothing() {
        for (String name : new String[] {"$eq", "$lte", "$gte"}) {
            onMissing(name, null, true);
            on(name, null, null, true);
            on(name, null, 0, false);
            on(name, null, Doc.row(), false);
            on(name, null, Doc.row(1, null), true);
            on(name, null, Doc.row(Doc.row((Object) null)), false);
        }
        for (String name : new String[] {"$lt", "$gt"}) {
            onMissing(name, null, false);
            on(name, null, null, false);
            on(name, null, 0, false);
        }
        onMissing("$ne", null, false);
        on("$ne", null, null, false);
        on("$ne", null, 1, true);
        onMissing("$lte", 0, false);
        expect(Doc.of("a", null), Doc.of(), true);
        expect(Doc.of("a.b", null), Doc.of("a", 5), true);
        expect(Doc.of("a.b", null), Doc.of("a", Doc.row()), true);
        expect(Doc.of("a.b", null), Doc.of("a", Doc.row(5)), true);
        expect(Doc.of("a.b", null), Doc.of("a", Doc.row(Doc.of("b", 1))), false);
        expect(Doc.of("a.b", null), Doc.of("a", Doc.row(Doc.of("b", 1), Doc.of())), true);
        expect(Doc.of("a.b", null), Doc.of("a", Doc.row(Doc.of("b", 1), 5)), false);
    }

    private static void in() {
        Doc wanted = Doc.row(1, "x", Doc.row(7));
        on("$in", wanted, 1L, true);
        on("$in", wanted, "x", true);
        on("$in", wanted, 2, false);
        on("$in", wanted, Doc.row(3, "x"), true);
        on("$in", wanted, Doc.row(3, 7), false);
        on("$in", wanted, Doc.row(7), true);
        on("$in", wanted, Doc.row(1, "x", Doc.row(7)), true);
        on("$in", wanted, Doc.row(Doc.row(1)), false);
        on("$nin", wanted, 1L, false);
        on("$nin", wanted, 2, true);
        on("$nin", wanted, Doc.row(3, "x"), false);
        on("$in", Doc.row(), 1, false);
        on("$nin", Doc.row(), 1, true);
        onMissing("$in", Doc.row(1, null), true);
        onMissing("$in", Doc.row(1), false);
        onMissing("$nin", Doc.row(1, null), false);
        onMissing("$nin", Doc.row(1), true);
        on("$in", Doc.row(Doc.of("$gt", 1)), 2, false);
    }

    private static void exists() {
        on("$exists", true, 1, true);
        on("$exists", true, null, true);
        on("$exists", true, Doc.row(), true);
        on("$exists", false, null, false);
        onMissing("$exists", true, false);
        onMissing("$exists", false, true);
        Doc some = Doc.of("a", Doc.row(Doc.of("b", 1), Doc.of()));
        expect(Doc.of("a.b", Doc.of("$exists", true)), some, true);
        expect(Doc.of("a.b", Doc.of("$exists", false)), some, false);
        Doc none = Doc.of("a", Doc.row(Doc.of("c", 1), Doc.of(), 5));
        expect(Doc.of("a.b", Doc.of("$exists", true)), none, false);
        expect(Doc.of("a.b", Doc.of("$exists", false)), none, true);
        Doc noLeaf = Doc.of("a", Doc.row(1, 2));
        expect(Doc.of("a.b", Doc.of("$exists", true)), noLeaf, false);
        expect(Doc.of("a.b", Doc.of("$exists", false)), noLeaf, true);
    }

    private static void size() {
        on("$size", 0, Doc.row(), true);
        on("$size", 0, Doc.of(), false);
        on("$size", 0, "", false);
        on("$size", 2, Doc.row(1, 2), true);
        on("$size", 2L, Doc.row(1, 2), true);
        on("$size", 4294967298L, Doc.row(1, 2), false);
        on("$size", 1, Doc.row(1, 2), false);
        on("$size", 2, Doc.row(Doc.row(1, 2)), false);
        onMissing("$size", 0, false);
        Doc two = Doc.of("a", Doc.row(Doc.of("b", Doc.row(1)), Doc.of("b", Doc.row(1, 2))));
        expect(Doc.of("a.b", Doc.of("$size", 2)), two, true);
        expect(Doc.of("a.b", Doc.of("$size", 3)), two, false);
    }

    private static void elem() {
        on("$elem", Doc.of("$gt", 1, "$lt", 3), Doc.row(0, 2), true);
        on("$elem", Doc.of("$gt", 1, "$lt", 3), Doc.row(0, 4), false);
        on("$elem", Doc.of("$gt", 1), 2, false);
        on("$elem", Doc.of("$gt", 1), Doc.row(), false);
        on("$elem", Doc.of("$eq", 1), Doc.row(0, Doc.row(1)), true);
        on("$elem", Doc.of("$eq", 1), Doc.row(0, Doc.row(Doc.row(1))), false);
        on("$elem", Doc.of("$size", 1), Doc.row(0, Doc.row(1)), true);
        on("$elem", Doc.of("$exists", false), Doc.row(0), false);
        on("$elem", Doc.of("$exists", true), Doc.row((Object) null), true);
        on("$elem", Doc.of("$elem", Doc.of("$eq", 1)), Doc.row(0, Doc.row(1)), true);
        on("$elem", Doc.of("$elem", Doc.of("$eq", 1)), Doc.row(0, 1), false);
        on("$elem", Doc.of("$not", Doc.of("$eq", 1)), Doc.row(1, 1), false);
        on("$elem", Doc.of("$not", Doc.of("$eq", 1)), Doc.row(1, 2), true);
        on("$elem", Doc.of(), Doc.row(1, Doc.row()), false);
        on("$elem", Doc.of(), Doc.row(1, Doc.of()), true);
        on("$elem", Doc.of("b", 1), Doc.row(1, Doc.of("b", 1)), true);
        on("$elem", Doc.of("b", 1, "c", 2), Doc.row(Doc.of("b", 1), Doc.of("c", 2)), false);
        on("$elem", Doc.of("b", 1, "c", 2), Doc.row(Doc.of("b", 1), Doc.of("c", 2, "b", 1)), true);
        on("$elem", Doc.of("b", null), Doc.row(1, 2), false);
        on("$elem", Doc.of("0", 1), Doc.row(Doc.row(1)), false);
        on("$elem", Doc.of("$or", Doc.row(Doc.of("b", 1), Doc.of("c", 1))), Doc.row(Doc.of("c", 1)), true);
        on("$elem", Doc.of("$or", Doc.row(Doc.of("b", 1), Doc.of("c", 1))), Doc.row(Doc.of("d", 1)), false);
        on("$elem", Doc.of("$nor", Doc.row(Doc.of("b", 1))), Doc.row(1, Doc.of("b", 1)), false);
        on("$elem", Doc.of("$nor", Doc.row(Doc.of("b", 1))), Doc.row(1, Doc.of("b", 2)), true);
        on("$elem", Doc.of("$and", Doc.row(Doc.of("b", 1)), "c", 2), Doc.row(Doc.of("b", 1)), false);
        onMissing("$elem", Doc.of("$exists", false), false);
        onMissing("$elem", Doc.of(), false);
        Doc two = Doc.of("a", Doc.row(Doc.of("b", Doc.row(1)), Doc.of("b", Doc.row(2, 3))));
        expect(Doc.of("a.b", Doc.of("$elem", Doc.of("$eq", 3))), two, true);
        expect(Doc.of("a.b", Doc.of("$elem", Doc.of("$eq", 4))), two, false);
        on("$elem", Doc.of("$eq", 1), Doc.row(Doc.row(Doc.row(1))), false);
    }

    private static void not() {
        on("$not", Doc.of("$gt", 1), 1, true);
        on("$not", Doc.of("$gt", 1), 2, false);
        on("$not", Doc.of("$gt", 1, "$lt", 5), 6, true);
        on("$not", Doc.of("$gt", 1, "$lt", 5), 1, true);
        on("$not", Doc.of("$gt", 1, "$lt", 5), 3, false);
        on("$not", Doc.of("$not", Doc.of("$gt", 1)), 2, true);
        on("$not", Doc.of("$not", Doc.of("$gt", 1)), 1, false);
        on("$not", Doc.of("$eq", 1), Doc.row(1, 2), false);
        on("$not", Doc.of("$ne", 1), Doc.row(1, 2), true);
        onMissing("$not", Doc.of("$gt", 1), true);
        onMissing("$not", Doc.of("$exists", false), false);
        expect(Doc.of("a", Doc.of("$not", Doc.of("$gt", 5), "$gt", 2)), Doc.of("a", 3), true);
        expect(Doc.of("a", Doc.of("$not", Doc.of("$gt", 5), "$gt", 2)), Doc.of("a", 2), false);
    }

    private static void joins() {
        for (int bits = 0; bits < 8; bits++) {
            Doc parts = Doc.row(Doc.of("a", bits & 1), Doc.of("b", bits >> 1 & 1), Doc.of("c", bits >> 2));
            Doc ones = Doc.of("a", 1, "b", 1, "c", 1);
            expect(Doc.of("$and", parts), ones, bits == 7);
            expect(Doc.of("$or", parts), ones, bits != 0);
            expect(Doc.of("$nor", parts), ones, bits == 0);
            expect(Doc.of("$and", Doc.row(Doc.of("$nor", parts))), ones, bits == 0);
            expect(Doc.of("$nor", Doc.row(Doc.of("$nor", parts))), ones, bits != 0);
            expect(Doc.of("$or", parts, "a", 1), ones, bits != 0);
            expect(Doc.of("$or", parts, "a", 0), ones, false);
        }
        expect(Doc.of("$and", Doc.row(Doc.of())), Doc.of(), true);
        expect(Doc.of("$or", Doc.row(Doc.of())), Doc.of(), true);
        expect(Doc.of("$nor", Doc.row(Doc.of())), Doc.of(), false);
        expect(Doc.of("$or", Doc.row(Doc.of("a", 1, "b", 2), Doc.of("a", 2, "b", 1))), Doc.of("a", 1, "b", 1), false);
    }

    private static void paths() {
        Doc eight = Doc.of("h", 1);
        for (String name : "g f e d c b a".split(" ")) {
            eight = Doc.of(name, eight);
        }
        expect(Doc.of("a.b.c.d.e.f.g.h", 1), eight, true);
        expect(Doc.of("a.b.c.d.e.f.g.h", 2), eight, false);
        expect(Doc.of("a.b.c.d.e.f.g", Doc.of("h", 1)), eight, true);
        expect(Doc.of("a.b.c.d.e.f.h", Doc.of("$exists", true)), eight, false);
        expect(Doc.of("a.b.c", Doc.of("$exists", true)), Doc.of("a", Doc.of("b.c", 1)), false);
        expect(Doc.of("a.b", 1), Doc.of("a.b", 1), false);
        expect(Doc.of("a.b", 1), Doc.of("a", Doc.of("b", 1)), true);
        expect(Doc.of("a.b", 1), Doc.of("a", Doc.of("bb", 1)), false);
        expect(Doc.of("a.b", 1), Doc.of("a", "b"), false);
        expect(Doc.of("a.0", 1), Doc.of("a", Doc.of("0", 1)), true);
        expect(Doc.of("a.00", 1), Doc.of("a", Doc.of("00", 1)), true);
        expect(Doc.of("ä.€", 1), Doc.of("ä", Doc.of("€", 1)), true);
        expect(Doc.of("a.length", 1), Doc.of("a", "x"), false);
    }

    private static void rows() {
        Doc numbers = Doc.of("a", Doc.row(5, 6, Doc.row(7, 8)));
        expect(Doc.of("a.0", 5), numbers, true);
        expect(Doc.of("a.1", 5), numbers, false);
        expect(Doc.of("a.2", 8), numbers, true);
        expect(Doc.of("a.2.1", 8), numbers, true);
        expect(Doc.of("a.2.0", 8), numbers, false);
        expect(Doc.of("a.3", Doc.of("$exists", true)), numbers, false);
        expect(Doc.of("a.00", Doc.of("$exists", true)), numbers, false);
        expect(Doc.of("a.01", Doc.of("$exists", true)), numbers, false);
        expect(Doc.of("a.-1", Doc.of("$exists", true)), numbers, false);
        expect(Doc.of("a.4294967296", Doc.of("$exists", true)), numbers, false);
        expect(Doc.of("a.18446744073709551616", Doc.of("$exists", true)), numbers, false);
        expect(Doc.of("a.0.b", null), numbers, true);
        expect(Doc.of("a.b", null), numbers, true);
        expect(Doc.of("a.b", Doc.of("$ne", 1)), numbers, true);
        Doc items = Doc.of("a", Doc.row(Doc.of("b", 1), Doc.of("b", Doc.row(2, 3)), Doc.of("0", 4), 5));
        expect(Doc.of("a.b", 1), items, true);
        expect(Doc.of("a.b", 3), items, true);
        expect(Doc.of("a.b", Doc.row(2, 3)), items, true);
        expect(Doc.of("a.b", null), items, true);
        expect(Doc.of("a.b.0", 2), items, true);
        expect(Doc.of("a.b.0", 3), items, false);
        expect(Doc.of("a.1.b", 3), items, true);
        expect(Doc.of("a.0.b", 3), items, false);
        expect(Doc.of("a.0", 4), items, true);
        expect(Doc.of("a.0", Doc.of("b", 1)), items, true);
        expect(Doc.of("a.3", 5), items, true);
        expect(Doc.of("a.3.x", Doc.of("$exists", true)), items, false);
        Doc nested = Doc.of("a", Doc.row(Doc.row(Doc.of("b", 1))));
        expect(Doc.of("a.b", 1), nested, false);
        expect(Doc.of("a.b", null), nested, true);
        expect(Doc.of("a.0.b", 1), nested, true);
        expect(Doc.of("a.0.0.b", 1), nested, true);
        expect(Doc.of("a.0.0.0.b", 1), nested, false);
        Doc eleven = Doc.row();
        for (int i = 0; i <= 10; i++) {
            eleven.item(i * i);
        }
        expect(Doc.of("a.10", 100), Doc.of("a", eleven), true);
        expect(Doc.of("a.10", 1), Doc.of("a", eleven), false);
        expect(Doc.of("a.1", 100), Doc.of("a", eleven), false);
        Doc zeros = Doc.of("0", Doc.row(Doc.of("0", Doc.row(Doc.of("0", 7)))));
        expect(Doc.of("0.0.0", 7), zeros, true);
        expect(Doc.of("0.0.0.0", 7), zeros, true);
        expect(Doc.of("0.0.0.0.0", 7), zeros, true);
        expect(Doc.of("0.0.0.0.0.0", Doc.of("$exists", true)), zeros, false);
        expect(Doc.of("0.0", 7), zeros, false);
        expect(Doc.of("0.0", Doc.of("$elem", Doc.of("0", 7))), zeros, true);
    }

    private static void deepest() {
        Object value = 1;
        Doc filter = Doc.of("$eq", 1);
        Doc nots = Doc.of("$eq", 1);
        for (int i = 0; i < 14; i++) {
            value = Doc.row(0, value);
            filter = Doc.of("$elem", filter);
            nots = Doc.of("$not", nots);
        }
        expect(Doc.of("a", filter), Doc.of("a", value), true);
        // The last item is a row there, and $eq looks at its items too.
        expect(Doc.of("a", filter), Doc.of("a", Doc.row(value)), true);
        expect(Doc.of("a", filter), Doc.of("a", ((Doc) value).values.get(1)), false);
        expect(Doc.of("a", value), Doc.of("a", value), true);
        expect(Doc.of("a", Doc.of("$gt", value)), Doc.of("a", value), false);
        expect(Doc.of("a", nots), Doc.of("a", 1), true);
        expect(Doc.of("a", nots), Doc.of("a", 2), false);
        Doc documents = Doc.of("0", 1);
        Doc steps = Doc.of("0", 1);
        Doc joins = Doc.of("0", 1);
        for (int i = 0; i < 7; i++) {
            documents = Doc.of("0", Doc.row(3, documents));
            steps = Doc.of("0", Doc.of("$elem", steps));
            joins = Doc.of("$and", Doc.row(joins));
        }
        expect(steps, documents, true);
        expect(Doc.of("0.0.0.0.0.0.0.0", 1), documents, true);
        expect(Doc.of("0.0.0.0.0.0.0", 1), documents, false);
        expect(Doc.of("0", Doc.of("$elem", Doc.of("0.0.0.0.0.0.0", 1))), documents, true);
        expect(Doc.of("0", Doc.of("$elem", Doc.of("0.0.0.0.0.0.0", 2))), documents, false);
        expect(joins, Doc.of("0", 1), true);
        filterAndDocumentAtTheirDeepest();
        expect(joins, documents, false);
    }

    /** A filter 16 deep, whose last conditions look at the deepest value of a document. */
    private static void filterAndDocumentAtTheirDeepest() {
        Object value = 7;
        Doc conditions = Doc.of("$not", Doc.of("$gt", 7, "$lt", 9));
        for (int i = 0; i < 13; i++) {
            value = Doc.row(value);
            conditions = Doc.of("$elem", conditions);
        }
        expect(Doc.of("a", conditions), Doc.of("a", value), true);
        Object other = Doc.row(8);
        for (int i = 0; i < 12; i++) {
            other = Doc.row(other);
        }
        expect(Doc.of("a", conditions), Doc.of("a", other), false);
        Doc filter = Doc.of("0.0", 7);
        Doc document = Doc.of("0", Doc.row(7));
        for (int i = 0; i < 7; i++) {
            filter = Doc.of("0", Doc.of("$elem", filter));
            document = Doc.of("0", Doc.row(document));
        }
        expect(filter, document, true);
    }
}
