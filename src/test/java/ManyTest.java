/** Promise 6: many. */
public final class ManyTest {
    public static void main(String[] args) {
        expect(Doc.of(), 0, 0, 0, 0);
        expect(Doc.of("a", 1), 1, 2, 1, 1);
        expect(Doc.of("a", Doc.of()), 1, 2, 1, 1);
        expect(Doc.of("a", Doc.of("b", 1, "c.d", 2)), 1, 2, 1, 1);
        expect(Doc.of("a.b", Doc.of("$eq", 1)), 1, 2, 1, 2);
        expect(Doc.of("a.b.c", Doc.of("$gt", 1, "$lt", 2)), 1, 3, 1, 3);
        expect(Doc.of("a", 1, "b.c", 2), 2, 4, 2, 3);
        expect(Doc.of("a", Doc.of("$eq", Doc.of("$lt", 1, "a", 2))), 1, 2, 1, 1);
        expect(Doc.of("a", Doc.of("$in", Doc.row(1, 2, Doc.of("a", 1)))), 1, 2, 1, 1);
        expect(Doc.of("$and", Doc.row(Doc.of())), 1, 1, 0, 0);
        expect(Doc.of("$and", Doc.row(Doc.of(), Doc.of(), Doc.of())), 1, 1, 0, 0);
        expect(Doc.of("$or", Doc.row(Doc.of("a.b", 1), Doc.of("c", 1, "d.e.f", Doc.of("$ne", 1)))), 1, 7, 3, 6);
        expect(Doc.of("a", Doc.of("$not", Doc.of("$lt", 1, "$gt", 1))), 1, 4, 1, 1);
        expect(Doc.of("a", Doc.of("$elem", Doc.of("$lt", 1, "$gt", 1))), 1, 4, 1, 1);
        expect(Doc.of("a", Doc.of("$elem", Doc.of("b.c", 1, "d", Doc.of("$gt", 1)))), 1, 6, 3, 4);
        expect(Doc.of("a", Doc.of("$elem", Doc.of())), 1, 2, 1, 1);
        expect(Doc.of("a", Doc.of("$elem", Doc.of("$nor", Doc.row(Doc.of("x", 1))))), 1, 5, 2, 2);
        expect(Doc.of("1.2.3.4.5.6.7.8", 1), 1, 2, 1, 8);
        wrongOnes();
        Check.end();
    }

    private static void expect(Doc filter, int elements, int both, int paths, int steps) {
        FilterReader x = new FilterReader();
        Check.due("filter of " + filter, Check.filter(x, 3, filter), 0);
        int[] want = {elements, both, paths, steps};
        for (int what = 0; what < 4; what++) {
            Check.due("many(3, " + what + ") of " + filter, x.many(3, what), want[what]);
            Check.due("many(2, " + what + ") beside " + filter, x.many(2, what), 0);
        }
    }

    private static void wrongOnes() {
        FilterReader x = new FilterReader();
        Check.filter(x, 0, Doc.of("a", 1));
        int[] none = {-1, 4, 5, Integer.MIN_VALUE, Integer.MAX_VALUE};
        for (int i : none) {
            Check.due("many(0, " + i + ")", x.many(0, i), -1);
            Check.due("many(" + i + ", 0)", x.many(i, 0), -1);
        }
    }
}
