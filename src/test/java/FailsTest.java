/** Promise 8: fails. */
public final class FailsTest {
    public static void main(String[] args) {
        FilterReader x = new FilterReader();
        Check.read(x, 0, Doc.of("a", 1, "b", 2));
        Check.read(x, 1, Doc.of("a", 1, "b", 3));
        Check.read(x, 2, Doc.of("a", 2, "c", 3));
        Check.filter(x, 0, Doc.of("a", 1, "$or", Doc.row(Doc.of("b", 2), Doc.of("b", 3)), "b", Doc.of("$lt", 3)));
        Check.due("fails(0, 0)", x.fails(0, 0), -1);
        Check.due("fails(0, 1)", x.fails(0, 1), 2);
        Check.due("fails(0, 2)", x.fails(0, 2), 0);
        Check.due("fails(0, 3)", x.fails(0, 3), 0);
        Check.filter(x, 3, Doc.of("a", Doc.of("$exists", true), "$nor", Doc.row(Doc.of("a", 2)), "b", 2));
        Check.due("fails(3, 0)", x.fails(3, 0), -1);
        Check.due("fails(3, 1)", x.fails(3, 1), 2);
        Check.due("fails(3, 2)", x.fails(3, 2), 1);
        Check.due("fails(3, 3)", x.fails(3, 3), 0);
        Check.due("fails(1, 3) of no elements", x.fails(1, 3), -1);
        int[] none = {-1, 4, 5, Integer.MIN_VALUE, Integer.MAX_VALUE};
        for (int i : none) {
            Check.due("fails(0, " + i + ")", x.fails(0, i), -2);
            Check.due("fails(" + i + ", 0)", x.fails(i, 0), -2);
        }
        Check.end();
    }
}
