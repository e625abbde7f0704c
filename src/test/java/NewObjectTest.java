/** Promise 1: a new object. */
public final class NewObjectTest {
    public static void main(String[] args) {
        FilterReader x = new FilterReader();
        Check.due("place() of a new object", x.place(), -1);
        for (int f = 0; f < 4; f++) {
            Check.due("which(" + f + ") of a new object", x.which(f), 15);
            for (int i = 0; i < 4; i++) {
                Check.due("many(" + f + ", " + i + ") of a new object", x.many(f, i), 0);
                Check.due("holds(" + f + ", " + i + ") of a new object", x.holds(f, i), 1);
                Check.due("fails(" + f + ", " + i + ") of a new object", x.fails(f, i), -1);
            }
        }
        Check.due("read(0, 1) of a new object", x.read(0, 1), -2);
        Check.due("read(0, 0) of a new object", x.read(0, 0), -1);
        Check.due("filter(0, 0) of a new object", x.filter(0, 0), -1);
        // The whole document is not to be seen, but an element of it is: there is none.
        Check.filter(x, 0, Doc.of("a", Doc.of("$exists", true)));
        Check.due("which(0), some a", x.which(0), 0);
        Check.filter(x, 0, Doc.of("", 1));
        Check.filter(x, 1, Doc.of("a", null));
        Check.due("which(1), no a", x.which(1), 15);
        FilterReader y = new FilterReader();
        Check.due("feed of another object", y.feed(0, 0, 0, 0, 0), 20);
        Check.due("feed of the first object", x.feed(0, 0, 0, 0, 0), 20);
        Check.end();
    }
}
