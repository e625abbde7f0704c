/** Promise 5: place. */
public final class PlaceTest {
    public static void main(String[] args) {
        latest();
        places();
        Check.end();
    }

    private static void latest() {
        FilterReader x = new FilterReader();
        Check.due("place() before any", x.place(), -1);
        Check.filter(x, 0, Doc.of("", 1));
        Check.due("place() of a fault", x.place(), 4);
        Check.due("a filter that is none", x.filter(4, 0), -2);
        Check.due("place() behind -2", x.place(), 4);
        Check.due("a filter of too many bytes", x.filter(0, 1), -2);
        Check.due("place() behind -2 again", x.place(), 4);
        Check.read(x, 0, Doc.of("", 1));
        Check.read(x, 0, new byte[] {1});
        Check.due("place() behind reads", x.place(), 4);
        Check.filter(x, 1, Doc.of("a", 1));
        Check.due("place() behind 0", x.place(), -1);
        Check.filter(x, 1, Doc.of("a", 1, "$x", 1));
        Check.due("place() of the second element", x.place(), 11);
        Check.due("filter of no document", x.filter(1, 0), -1);
        Check.due("place() behind -1", x.place(), -1);
    }

    private static void places() {
        expect(Doc.of("$x", 1), 4, 1);
        expect(Doc.of("a", 1L, "$x", 1), 15, 1);
        expect(Doc.of("äb", null, "$x", 1), 9, 1);
        expect(Doc.of("a", "xyz", "b..c", 1), 15, 3);
        expect(Doc.of("a", true, "$or", 1), 8, 2);
        expect(Doc.of("$or", Doc.row(1)), 13, 2);
        expect(Doc.of("$or", Doc.row(Doc.of(), Doc.of(), null)), 29, 2);
        expect(Doc.of("$or", Doc.row(Doc.of(), Doc.of("", null))), 28, 3);
        expect(Doc.of("a", Doc.of("$x", 1)), 11, 1);
        expect(Doc.of("a", Doc.of("$eq", 1, "$x", 1)), 20, 1);
        expect(Doc.of("a", Doc.of("$eq", 1, "x", 1)), 20, 1);
        expect(Doc.of("a", Doc.of("$in", 1)), 11, 4);
        expect(Doc.of("a", Doc.of("$not", Doc.of())), 11, 4);
        expect(Doc.of("a", Doc.of("$not", Doc.of("$in", 1))), 21, 4);
        expect(Doc.of("a", Doc.of("$elem", Doc.of("b", Doc.of("$x", 1)))), 29, 1);
        expect(Doc.of("a", Doc.of("$elem", Doc.of("b.", Doc.of("$x", 1)))), 22, 3);
        Doc fifty = Doc.of();
        for (int i = 10; i < 60; i++) {
            fifty.with("" + i, null);
        }
        expect(fifty, -1, 0);
        expect(fifty.with("60", null), 204, 5);
        Doc one = Doc.of("$exists", true, "$ne", 1, "$nin", Doc.row());
        for (int i = 10; i < 35; i++) {
            one = i == 10 ? Doc.of("10", one) : one.with("" + i, one.values.get(0));
        }
        // Elements of 44 bytes with 4 elements of both each.
        expect(one, -1, 0);
        expect(Doc.of("1", null).with("2", Doc.of("$or", null)), 14, 1);
        Doc late = Doc.of();
        for (int i = 10; i < 59; i++) {
            late.with("" + i, null);
        }
        late.with("b", Doc.of("$exists", true, "$ne", 1));
        // 49 elements of 4 bytes, the next at 200, its conditions at 207 and 217.
        expect(late, 217, 5);
    }

    private static void expect(Doc filter, int place, int fault) {
        Check.due("place and fault of " + filter, Check.fault(filter), 1000 * place + fault);
    }
}
