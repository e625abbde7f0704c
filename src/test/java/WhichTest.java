/** Promise 9: which. */
public final class WhichTest {
    public static void main(String[] args) {
        FilterReader x = new FilterReader();
        for (int slot = 0; slot < 4; slot++) {
            Check.read(x, slot, Doc.of("a", slot));
        }
        for (int slot = 0; slot < 4; slot++) {
            Check.filter(x, slot, Doc.of("a", slot));
            Check.due("which(" + slot + ")", x.which(slot), 1 << slot);
        }
        Check.filter(x, 2, Doc.of("a", Doc.of("$ne", 2)));
        Check.due("which of all but one", x.which(2), 11);
        Check.filter(x, 2, Doc.of("a", Doc.of("$gt", 1)));
        Check.due("which of two", x.which(2), 12);
        Check.filter(x, 2, Doc.of());
        Check.due("which of all", x.which(2), 15);
        Check.filter(x, 2, Doc.of("b", 1));
        Check.due("which of none", x.which(2), 0);
        Check.read(x, 0, Doc.of("b", 1));
        Check.due("which of another document", x.which(2), 1);
        int[] none = {-1, 4, 5, Integer.MIN_VALUE, Integer.MAX_VALUE};
        for (int f : none) {
            Check.due("which(" + f + ")", x.which(f), -1);
        }
        Check.end();
    }
}
