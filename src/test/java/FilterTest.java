/** Promise 4: filter, and which faults it may have. */
public final class FilterTest {
    private static final Doc OLD = Doc.of("old", 1);

    public static void main(String[] args) {
        filtersAndCounts();
        names();
        joins();
        paths();
        conditionNames();
        conditionValues();
        deepFilters();
        severalFaults();
        tooMany();
        Check.end();
    }

    private static void filtersAndCounts() {
        FilterReader x = new FilterReader();
        byte[] bytes = OLD.bytes();
        Check.feed(x, bytes);
        int[] noFilters = {-1, 4, Integer.MIN_VALUE, Integer.MAX_VALUE};
        for (int f : noFilters) {
            Check.due("filter(" + f + ", ..)", x.filter(f, bytes.length), -2);
        }
        int[] noCounts = {-1, 21, Integer.MIN_VALUE, Integer.MAX_VALUE};
        for (int n : noCounts) {
            Check.due("filter(0, " + n + ")", x.filter(0, n), -2);
        }
        Check.due("feed behind filters of nothing", x.feed(0, 0, 0, 0, 0), 40);
        Check.due("filter(3, ..)", x.filter(3, bytes.length), 0);
        Check.due("feed behind a filter", x.feed(0, 0, 0, 0, 0), 20);
        Check.due("filter of no document", x.filter(3, 20), -1);
        Check.due("feed behind a filter that was -1", x.feed(0, 0, 0, 0, 0), 20);
        Check.due("which: the filter stays", x.which(3), 0);
        x.read(0, 0);
        Check.due("filter with a fault", Check.filter(x, 3, Doc.of("", 1)), 3);
        Check.due("feed behind a filter with a fault", x.feed(0, 0, 0, 0, 0), 20);
        Check.due("which: the filter stays behind a fault", x.which(3), 0);
        Check.due("many: the filter stays behind a fault", x.many(3, 1), 2);
        x.read(0, 0);
        Check.filter(x, 3, Doc.of());
        Check.due("which: another filter", x.which(3), 15);
    }

    private static void expect(Doc filter, int want) {
        FilterReader x = new FilterReader();
        Check.filter(x, 1, OLD);
        Check.due("filter of " + filter, Check.filter(x, 1, filter), want);
        boolean stays = x.many(1, 0) == 1 && x.many(1, 1) == 2 && x.many(1, 3) == 1 && x.which(1) == 0;
        if (want != 0) {
            Check.due("the old filter stays behind " + filter, stays ? 1 : 0, 1);
        }
    }

    /** A condition on a path. */
    private static Doc on(String name, Object value) {
        return Doc.of("a", Doc.of(name, value));
    }

    private static void names() {
        expect(Doc.of(), 0);
        expect(Doc.of("a", 1), 0);
        expect(Doc.of("$", 1), 1);
        expect(Doc.of("$x", 1), 1);
        expect(Doc.of("$eq", 1), 1);
        expect(Doc.of("$an", Doc.row(Doc.of())), 1);
        expect(Doc.of("$andd", Doc.row(Doc.of())), 1);
        expect(Doc.of("$and.a", Doc.row(Doc.of())), 1);
        expect(Doc.of("$AND", Doc.row(Doc.of())), 1);
        expect(Doc.of("$not", Doc.of("$eq", 1)), 1);
        expect(Doc.of("a", 1, "$x", 1), 1);
        expect(Doc.of("and", Doc.row(Doc.of())), 0);
    }

    private static void joins() {
        for (String join : new String[] {"$and", "$or", "$nor"}) {
            expect(Doc.of(join, Doc.row(Doc.of())), 0);
            expect(Doc.of(join, Doc.row(Doc.of("a", 1), Doc.of(), Doc.of("b", 1))), 0);
            expect(Doc.of(join, Doc.row()), 2);
            expect(Doc.of(join, Doc.of()), 2);
            expect(Doc.of(join, Doc.of("a", 1)), 2);
            expect(Doc.of(join, 1), 2);
            expect(Doc.of(join, null), 2);
            expect(Doc.of(join, "a"), 2);
            expect(Doc.of(join, true), 2);
            expect(Doc.of(join, Doc.row(1)), 2);
            expect(Doc.of(join, Doc.row(Doc.of(), Doc.row())), 2);
            expect(Doc.of(join, Doc.row(Doc.of(), null, Doc.of())), 2);
            expect(Doc.of(join, Doc.row(Doc.of(join, Doc.row(Doc.of("$x", 1))))), 1);
            expect(Doc.of(join, Doc.row(Doc.of("$eq", 1))), 1);
            expect(Doc.of(join, Doc.row(Doc.of(join, Doc.row()))), 2);
            expect(Doc.of(join, Doc.row(Doc.of("", 1))), 3);
        }
    }

    private static void paths() {
        for (String path : new String[] {"a", "a.b", "a.b.c.d.e.f.g.h", "0", "a.0.1", "ä.€", " ", "a$", "a.b$.c"}) {
            expect(Doc.of(path, 1), 0);
            expect(Doc.of(path, Doc.of("$eq", 1)), 0);
        }
        String[] none = {"", ".", "..", ".a", "a.", "a..b", "a.b.", "a.b.c.d.e.f.g.h.i", "a.b.c.d.e.f.g.",
            "a.b.c.d.e.f.g.h.", ".a.b", "a.$", "a.$b", "a.$eq.b", "a.b.$and", "a.$.b"};
        for (String path : none) {
            expect(Doc.of(path, 1), 3);
            expect(Doc.of(path, Doc.of("$eq", 1)), 3);
            expect(Doc.of("x", 1, path, Doc.of("$x", 1)), 3);
        }
    }

    private static void conditionNames() {
        String[] of = {"$eq", "$ne", "$lt", "$lte", "$gt", "$gte"};
        Object[] values = {1, -1L, true, false, null, "a", "", Doc.of(), Doc.of("$x", 1), Doc.of("a", 1), Doc.row(),
            Doc.row(1)};
        for (String name : of) {
            for (Object value : values) {
                expect(on(name, value), 0);
            }
        }
        expect(on("$x", 1), 1);
        expect(on("$", 1), 1);
        expect(on("$EQ", 1), 1);
        expect(on("$eqq", 1), 1);
        expect(on("$e", 1), 1);
        expect(on("$and", Doc.row(Doc.of())), 1);
        expect(on("$or", Doc.row(Doc.of())), 1);
        expect(on("$nor", Doc.row(Doc.of())), 1);
        expect(Doc.of("a", Doc.of("$eq", 1, "b", 1)), 1);
        expect(Doc.of("a", Doc.of("$eq", 1, "", 1)), 1);
        expect(Doc.of("a", Doc.of("$eq", 1, "$lt", 1, "$x", 1)), 1);
        expect(Doc.of("a", Doc.of("b", 1, "$x", 1)), 0);
        expect(Doc.of("a", Doc.of("", 1, "$x", 1)), 0);
        expect(Doc.of("a", Doc.of()), 0);
        expect(Doc.of("a", Doc.row(Doc.of("$x", 1))), 0);
    }

    private static void fits(String name, Object... right) {
        Object[] all = {1, 0, -1, 1L, 0L, -1L, Long.MIN_VALUE, Long.MAX_VALUE, true, false, null, "a", "", Doc.of(),
            Doc.of("a", 1), Doc.of("$eq", 1), Doc.of("$exists", true, "$size", 0), Doc.row(), Doc.row(1, null),
            Doc.row(Doc.of("$x", 1))};
        for (Object value : all) {
            boolean one = false;
            for (Object r : right) {
                one |= String.valueOf(r).equals(String.valueOf(value)) && Doc.kind(r) == Doc.kind(value);
            }
            expect(on(name, value), one ? 0 : 4);
        }
    }

    private static void conditionValues() {
        fits("$in", Doc.row(), Doc.row(1, null), Doc.row(Doc.of("$x", 1)));
        fits("$nin", Doc.row(), Doc.row(1, null), Doc.row(Doc.of("$x", 1)));
        fits("$exists", true, false);
        fits("$size", 1, 0, 1L, 0L, Long.MAX_VALUE);
        fits("$elem", Doc.of(), Doc.of("a", 1), Doc.of("$eq", 1), Doc.of("$exists", true, "$size", 0));
        fits("$not", Doc.of("$eq", 1), Doc.of("$exists", true, "$size", 0));
        expect(on("$elem", Doc.of("$and", Doc.row(Doc.of("a", 1)), "b", 1)), 0);
        expect(on("$elem", Doc.of("$and", Doc.row(Doc.of()), "$eq", 1)), 1);
        expect(on("$elem", Doc.of("$and", Doc.row())), 2);
        expect(on("$elem", Doc.of("$or", 1)), 2);
        expect(on("$elem", Doc.of("$nor", Doc.row(1))), 2);
        expect(on("$elem", Doc.of("$eq", 1, "$and", Doc.row(Doc.of()))), 1);
        expect(on("$elem", Doc.of("$eq", 1, "b", 1)), 1);
        expect(on("$elem", Doc.of("b", 1, "$eq", 1)), 1);
        expect(on("$elem", Doc.of("b", 1, "$or", Doc.row(Doc.of()))), 0);
        expect(on("$elem", Doc.of("$x", 1)), 1);
        expect(on("$elem", Doc.of("", 1)), 3);
        expect(on("$elem", Doc.of("$size", -1)), 4);
        expect(on("$elem", Doc.of("$elem", Doc.of("$elem", Doc.of("$in", 1)))), 4);
        expect(on("$not", Doc.of("$and", Doc.row(Doc.of()))), 1);
        expect(on("$not", Doc.of("$eq", 1, "b", 1)), 1);
        expect(on("$not", Doc.of("$not", Doc.of("$not", Doc.of("b", 1)))), 4);
        expect(on("$not", Doc.of("$not", Doc.of("$not", Doc.of("$lt", 1)))), 0);
    }

    /** A filter within that is 16 deep. */
    private static Doc deep(String name, Object value) {
        Doc within = Doc.of("$elem", Doc.of(name, value));
        for (int i = 0; i < 13; i++) {
            within = i % 2 == 0 ? Doc.of("$not", within) : Doc.of("$elem", within);
        }
        return Doc.of("a", within);
    }

    private static void deepFilters() {
        expect(deep("b", 1), 0);
        expect(deep("$eq", 1), 0);
        expect(deep("$x", 1), 1);
        expect(deep("$or", 1), 2);
        expect(deep("", 1), 3);
        expect(deep("$in", 1), 4);
        expect(deep("b", Doc.of()), -1);
    }

    private static void severalFaults() {
        expect(Doc.of("a", Doc.of("$size", -1), "", 1), 4);
        expect(Doc.of("", 1, "a", Doc.of("$size", -1)), 3);
        expect(Doc.of("a", Doc.of("$in", 1, "$x", 1)), 4);
        expect(Doc.of("a", Doc.of("$x", 1, "$in", 1)), 1);
        expect(Doc.of("$or", Doc.row(Doc.of("", 1), 1)), 3);
        expect(Doc.of("$or", Doc.row(1, Doc.of("", 1))), 2);
        expect(Doc.of("$x.", 1), 1);
        expect(Doc.of("$x", Doc.of("$x", 1)), 1);
    }

    /** Elements a0, a1, .. with one condition each: two elements of both for each. */
    private static Doc many(int elements) {
        Doc made = Doc.of();
        for (int i = 0; i < elements; i++) {
            made.with("a" + i, i % 2 == 0 ? (Object) i : Doc.of("$lt", i));
        }
        return made;
    }

    private static void tooMany() {
        expect(many(50), 0);
        expect(many(51), 5);
        expect(many(49).with("b", Doc.of("$exists", true)), 0);
        expect(many(49).with("b", Doc.of("$exists", true, "$ne", 1)), 5);
        expect(many(49).with("b", Doc.of("$exists", true, "$x", 1)), 1);
        expect(many(49).with("b", Doc.of("$exists", true, "$exist", 1)), 1);
        expect(many(49).with("b", Doc.of("$exists", true, "$size", true)), 4);
        expect(many(49).with("$and", Doc.row(Doc.of(), Doc.of())), 0);
        expect(many(49).with("$and", Doc.row(Doc.of())).with("$or", Doc.row(Doc.of())), 0);
        expect(many(49).with("$and", Doc.row(Doc.of())).with("b", 1), 5);
        expect(many(49).with("$and", Doc.row(Doc.of())).with("b", Doc.of("$eq", 1)), 5);
        expect(many(49).with("$and", Doc.row(Doc.of("b", 1))), 5);
        expect(many(50).with("$and", Doc.row(Doc.of())), 5);
        expect(many(50).with("$and", Doc.row()), 2);
        expect(many(50).with("", 1), 3);
        expect(many(50).with("$x", 1), 1);
        expect(many(48).with("b", Doc.of("$elem", Doc.of("b", 1))), 0);
        expect(many(48).with("b", Doc.of("$elem", Doc.of("b", 1, "c", Doc.of("$lt", 1)))), 5);
        expect(many(48).with("b", Doc.of("$not", Doc.of("$lt", 1, "$gt", 1))), 0);
        expect(many(48).with("b", Doc.of("$not", Doc.of("$lt", 1, "$gt", 1, "$ne", 1))), 5);
        Doc items = Doc.row();
        for (int i = 0; i < 120; i++) {
            items.item(Doc.of());
        }
        expect(Doc.of("$and", items), 0);
        Doc conditions = Doc.of("$in", items, "$lt", Doc.of("a", 1, "b", 1));
        expect(many(48).with("b", conditions), 0);
        expect(many(49).with("b", many(9)), 0);
    }
}
