import java.util.Arrays;
import java.util.List;

/** The term FAULTS, sentence by sentence. */
public final class FaultsTest {
    private static final String TERM = "Terms: FAULTS";
    private static final String[] JOINS = {"$and", "$or", "$nor"};
    private static final String[] NAMES = {"$eq", "$ne", "$in", "$nin", "$lt", "$lte", "$gt", "$gte", "$exists", "$size",
        "$elem", "$not"};

    public static void main(String[] args) {
        Sentence.testAll(sentences());
    }

    static List<Sentence> sentences() {
        return List.of(
            new Sentence("What it is", "Filters, which are documents themselves: read and refused at the first thing that "
                + "is not so, and asked whether a document is one for them.", FaultsTest::refusedAtTheFirstThing),
            new Sentence(TERM, "FAULTS of a filter, the first one by its PLACE, the byte where an element's kind stands",
                FaultsTest::firstByItsPlace),
            new Sentence(TERM, "of several there the first of these", FaultsTest::severalAtOnePlace),
            new Sentence(TERM, "1: its name begins with $ and it is none of $and, $or, $nor in a filter, or none of those "
                + "above among conditions", FaultsTest::unknownNames),
            new Sentence(TERM, "or among conditions its name does not begin with $.", FaultsTest::namesWithoutDollar),
            new Sentence(TERM, "2: the value of $and, $or, $nor is not a row, or has no item", FaultsTest::noRowOfFilters),
            new Sentence(TERM, "or an item of it (at that item's place) is no document.", FaultsTest::itemsThatAreNoFilters),
            new Sentence(TERM, "3: a name is no path, or a step of it begins with $.", FaultsTest::noPaths),
            new Sentence(TERM, "4: the value of a condition is not as it has to be.", FaultsTest::wrongValues),
            new Sentence(TERM, "5: there would be more than 100 elements of filters and conditions (each $eq by a value "
                + "alone is one of both).", FaultsTest::moreThan100));
    }

    private static void faults(Doc filter, int fault, int place) {
        Check.faults(filter, fault, place);
    }

    private static void right(Doc filter) {
        Check.right(filter);
    }

    /** A condition on a; it stands at 11. */
    private static Doc on(String name, Object value) {
        return Doc.of("a", Doc.of(name, value));
    }

    /** A value that a condition of this name may have. */
    private static Object valueFor(String name) {
        switch (name) {
            case "$in":
            case "$nin":
                return Doc.row();
            case "$exists":
                return true;
            case "$elem":
                return Doc.of();
            case "$not":
                return Doc.of("$eq", 1);
            default:
                return 1;
        }
    }

    private static void refusedAtTheFirstThing() {
        FilterReader x = new FilterReader();
        Check.read(x, 0, Doc.of("a", 1));
        Check.due("a filter that is read", Check.filter(x, 0, Doc.of("a", 1)), 0);
        Check.due("and asked", x.which(0), 1);
        Check.due("one that is refused", Check.filter(x, 0, Doc.of("a", 2, "b.", 1, "$x", 1)), 3);
        Check.due("at the first thing", x.place(), 11);
        Check.due("and not asked", x.which(0), 1);
        Check.due("one that is no document", Check.filter(x, 0, new byte[] {5, 0, 0, 0, 1}), -1);
        Check.due("and not asked", x.which(0), 1);
    }

    private static void firstByItsPlace() {
        faults(Doc.of("$x", 1), 1, 4);
        faults(Doc.of("a", 1, "$x", 1), 1, 11);
        faults(Doc.of("a", 1L, "$x", 1), 1, 15);
        faults(Doc.of("\u00e4b", null, "$x", 1), 1, 9);
        faults(Doc.of("a", "xyz", "$x", 1), 1, 15);
        faults(Doc.of("a", true, "$x", 1), 1, 8);
        faults(Doc.of("a", Doc.of(), "$x", 1), 1, 12);
        faults(Doc.of("a", Doc.row(null, null), "$x", 1), 1, 18);
        // The earlier place goes first, whatever the numbers are, and however deep it is.
        faults(Doc.of("b.", 1, "$x", 1), 3, 4);
        faults(Doc.of("$x", 1, "b.", 1), 1, 4);
        faults(Doc.of("a", Doc.of("$in", 1), "$x", 1), 4, 11);
        faults(Doc.of("a", Doc.of("$in", 1, "$x", 1)), 4, 11);
        faults(Doc.of("a", Doc.of("$x", 1, "$in", 1)), 1, 11);
        faults(Doc.of("b.", Doc.of("$x", 1)), 3, 4);
        faults(Doc.of("a", Doc.of("$not", Doc.of("$size", -1), "$x", 1), "$x", 1), 4, 21);
        faults(Doc.of("a", Doc.of("$elem", Doc.of("b", Doc.of("$in", 1)), "$x", 1), "$x", 1), 4, 29);
        faults(Doc.of("$or", Doc.row(Doc.of("b.", 1), 1), "$x", 1), 3, 20);
        faults(Doc.of("$or", Doc.row(1, Doc.of("b.", 1)), "$x", 1), 2, 13);
        faults(Doc.of("$or", Doc.row(Doc.of(), Doc.of("$and", Doc.row(Doc.of(), 5)), 6)), 2, 46);
        // Behind the fault of its own place, what is within a value is not looked at.
        faults(Doc.of("$x", Doc.of("b.", 1)), 1, 4);
        faults(Doc.of("$or", Doc.of("$x", 1)), 2, 4);
        faults(on("$in", Doc.of("$x", 1)), 4, 11);
        faults(Doc.of("a", 1), 0, -1);
        // The last element of 2,000 bytes.
        char[] letters = new char[1982];
        Arrays.fill(letters, 'x');
        Doc full = Doc.of("a", new String(letters), "$x", true);
        Check.due("bytes", full.bytes().length, 2000);
        faults(full, 1, 1994);
    }

    private static void severalAtOnePlace() {
        int next = end(counting(100));
        Check.right(counting(100));
        faults(counting(100).with("c", 1), 5, next);
        faults(counting(100).with("$x", 1), 1, next);
        faults(counting(100).with("$or", 1), 2, next);
        faults(counting(100).with("$or", Doc.row()), 2, next);
        faults(counting(100).with("c.", 1), 3, next);
        // What stands within is at a later place.
        faults(counting(100).with("$or", Doc.row(Doc.of("$x", 1))), 5, next);
        faults(counting(100).with("$or", Doc.row(1)), 5, next);
        faults(counting(100).with("c", Doc.of("$x", 1)), 5, next);
        // A path that is number 99, a condition that is number 100, and one more.
        int last = end(counting(98)) + 3 + 4 + 10;
        faults(counting(98).with("c", Doc.of("$exists", true)), 0, -1);
        faults(counting(98).with("c", Doc.of("$exists", true, "$lt", 1)), 5, last);
        faults(counting(98).with("c", Doc.of("$exists", true, "$in", 1)), 4, last);
        faults(counting(98).with("c", Doc.of("$exists", true, "$x", 1)), 1, last);
        faults(counting(98).with("c", Doc.of("$exists", true, "x", 1)), 1, last);
        // A name that is none goes before what its value is, or what a path it would be.
        faults(Doc.of("a", Doc.of("$eq", 1, "$sizes", -1)), 1, 20);
        faults(Doc.of("$x..y", Doc.row()), 1, 4);
        faults(Doc.of("$x.$y", Doc.of("$x", 1)), 1, 4);
    }

    private static void unknownNames() {
        String[] none = {"$", "$$", "$x", "$an", "$andd", "$and.a", "$AND", "$and ", "$o", "$orr", "$no", "$norr", "$eq",
            "$not", "$elem"};
        for (String name : none) {
            faults(Doc.of(name, Doc.row(Doc.of())), 1, 4);
            faults(Doc.of("a", 1, name, Doc.row(Doc.of())), 1, 11);
            faults(Doc.of("$or", Doc.row(Doc.of(name, Doc.row(Doc.of())))), 1, 20);
            faults(on("$elem", Doc.of("b", 1, name, Doc.row(Doc.of()))), 1, 29);
        }
        for (String name : NAMES) {
            faults(Doc.of(name, valueFor(name)), 1, 4);
            right(on(name, valueFor(name)));
        }
        for (String join : JOINS) {
            right(Doc.of(join, Doc.row(Doc.of())));
            right(on("$elem", Doc.of(join, Doc.row(Doc.of()))));
            faults(on(join, Doc.row(Doc.of())), 1, 11);
            faults(on("$not", Doc.of(join, Doc.row(Doc.of()))), 1, 21);
            faults(Doc.of("a", Doc.of("$eq", 1, join, Doc.row(Doc.of()))), 1, 20);
            faults(on("$elem", Doc.of("$eq", 1, join, Doc.row(Doc.of()))), 1, 31);
        }
        String[] noConditions = {"$", "$$", "$x", "$e", "$eqq", "$EQ", "$eq ", "$eq.a", "$n", "$nee", "$i", "$inn", "$nins",
            "$l", "$ltt", "$ltee", "$g", "$gtt", "$gtee", "$exist", "$existss", "$siz", "$sizes", "$ele", "$elemm", "$no",
            "$nott"};
        for (String name : noConditions) {
            faults(on(name, 1), 1, 11);
            faults(Doc.of("a", Doc.of("$eq", 1, name, 1)), 1, 20);
            faults(on("$not", Doc.of(name, 1)), 1, 21);
            faults(on("$elem", Doc.of(name, 1)), 1, 22);
        }
        // What stands in a value that is compared is no name of a filter or a condition.
        for (String name : new String[] {"$eq", "$ne", "$lt", "$lte", "$gt", "$gte"}) {
            right(on(name, Doc.of("$x", 1, "", Doc.of("$and", 1))));
        }
        right(on("$in", Doc.row(Doc.of("$x", 1))));
        right(Doc.of("a", Doc.row(Doc.of("$x", 1))));
        right(Doc.of("a", Doc.of("b", Doc.of("$x", 1))));
    }

    private static void namesWithoutDollar() {
        for (String name : new String[] {"", "b", "eq", "b.c", ".", " $eq", "\u00e4", "0"}) {
            faults(Doc.of("a", Doc.of("$eq", 1, name, 1)), 1, 20);
            faults(Doc.of("a", Doc.of("$eq", 1, "$ne", 1, name, 1)), 1, 29);
            faults(on("$not", Doc.of("$eq", 1, name, 1)), 1, 30);
            faults(on("$elem", Doc.of("$eq", 1, name, 1)), 1, 31);
            // As the first name it makes the document a value.
            right(Doc.of("a", Doc.of(name, 1, "$x", 1)));
        }
    }

    private static void noRowOfFilters() {
        Object[] noRows = {1, 1L, null, "", "a", true, false, Doc.of(), Doc.of("a", 1), Doc.of("0", Doc.of())};
        for (String join : JOINS) {
            int within = 4 + 1 + join.length() + 1 + 4 + 3 + 4;
            for (Object value : noRows) {
                faults(Doc.of(join, value), 2, 4);
                faults(Doc.of("$and", Doc.row(Doc.of(join, value))), 2, 21);
            }
            faults(Doc.of(join, Doc.row()), 2, 4);
            faults(Doc.of("a", 1, join, Doc.row()), 2, 11);
            faults(on("$elem", Doc.of(join, Doc.row())), 2, 22);
            faults(Doc.of(join, Doc.row(Doc.of(join, Doc.row()))), 2, within);
            right(Doc.of(join, Doc.row(Doc.of())));
            right(Doc.of(join, Doc.row(Doc.of(), Doc.of())));
            right(Doc.of("and", Doc.row(), "or", 1));
        }
    }

    private static void itemsThatAreNoFilters() {
        Object[] noDocuments = {1, 1L, null, "a", true, Doc.row(), Doc.row(Doc.of())};
        for (String join : JOINS) {
            int first = 4 + 1 + join.length() + 1 + 4;
            for (Object item : noDocuments) {
                faults(Doc.of(join, Doc.row(item)), 2, first);
                faults(Doc.of(join, Doc.row(item, Doc.of())), 2, first);
                faults(Doc.of(join, Doc.row(Doc.of(), item)), 2, first + 8);
                faults(Doc.of(join, Doc.row(Doc.of(), Doc.of(), item, item)), 2, first + 16);
                faults(Doc.of(join, Doc.row(Doc.of("a", 1), item)), 2, first + 15);
            }
        }
        Doc eleven = Doc.row();
        for (int i = 0; i < 11; i++) {
            eleven.item(i == 10 ? (Object) 1 : Doc.of());
        }
        faults(Doc.of("$or", eleven), 2, 13 + 80);
    }

    private static void noPaths() {
        String[] none = {"", ".", ".a", "a.", "a..b", "a.b.c.d.e.f.g.h.i", "a.b.c.d.e.f.g.h.", "a.$", "a.$b", "a.$b.c",
            "a.b.c.d.e.f.g.$h", "a.b.$and", ".$", "a.$eq"};
        for (String name : none) {
            faults(Doc.of(name, 1), 3, 4);
            faults(Doc.of(name, Doc.of("$eq", 1)), 3, 4);
            faults(Doc.of("x", 1, name, Doc.of("$x", 1)), 3, 11);
            faults(Doc.of("x", Doc.of("$elem", Doc.of(name, 1))), 3, 22);
            faults(Doc.of("$nor", Doc.row(Doc.of(), Doc.of(name, 1))), 3, 29);
            // A name in a document that is a value may be anything.
            right(Doc.of("x", Doc.of("y", 1, name, 1)));
            right(on("$eq", Doc.of(name, 1)));
        }
        for (String name : new String[] {"a", "a.b.c.d.e.f.g.h", "a$", "a.b$", "0", " "}) {
            right(Doc.of(name, 1));
        }
    }

    /** That of many values those given are right for a condition, and no others. */
    private static void fits(String name, Object... rightOnes) {
        Object[] all = {1, 0, -1, 1L, 0L, -1L, Integer.MIN_VALUE, Integer.MAX_VALUE, Long.MIN_VALUE, Long.MAX_VALUE, true,
            false, null, "a", "", Doc.of(), Doc.of("a", 1), Doc.of("$eq", 1), Doc.of("$exists", true, "$size", 0), Doc.row(),
            Doc.row(1, null), Doc.row(Doc.of("$x", 1))};
        for (Object value : all) {
            boolean one = rightOnes.length == 0;
            for (Object r : rightOnes) {
                one |= String.valueOf(r).equals(String.valueOf(value)) && Doc.kind(r) == Doc.kind(value);
            }
            faults(on(name, value), one ? 0 : 4, one ? -1 : 11);
        }
    }

    private static void wrongValues() {
        for (String any : new String[] {"$eq", "$ne", "$lt", "$lte", "$gt", "$gte"}) {
            fits(any);
        }
        fits("$in", Doc.row(), Doc.row(1, null), Doc.row(Doc.of("$x", 1)));
        fits("$nin", Doc.row(), Doc.row(1, null), Doc.row(Doc.of("$x", 1)));
        fits("$exists", true, false);
        fits("$size", 1, 0, 1L, 0L, Integer.MAX_VALUE, Long.MAX_VALUE);
        fits("$elem", Doc.of(), Doc.of("a", 1), Doc.of("$eq", 1), Doc.of("$exists", true, "$size", 0));
        fits("$not", Doc.of("$eq", 1), Doc.of("$exists", true, "$size", 0));
        faults(on("$not", Doc.of("$in", 1)), 4, 21);
        faults(on("$elem", Doc.of("$in", 1)), 4, 22);
        faults(on("$elem", Doc.of("b", Doc.of("$in", 1))), 4, 29);
        faults(Doc.of("$or", Doc.row(on("$in", 1))), 4, 27);
        faults(Doc.of("a", Doc.of("$eq", 1, "$in", 1)), 4, 20);
        deepest();
    }

    /** A filter with one name within it that is 16 deep. */
    private static Doc deep(String name, Object value) {
        Doc within = Doc.of("$elem", Doc.of(name, value));
        for (int i = 0; i < 13; i++) {
            within = i % 2 == 0 ? Doc.of("$not", within) : Doc.of("$elem", within);
        }
        return Doc.of("a", within);
    }

    private static void deepest() {
        int place = 7 + 7 * 10 + 7 * 11 + 4;
        right(deep("b", 1));
        right(deep("$eq", 1));
        faults(deep("$x", 1), 1, place);
        faults(deep("$or", 1), 2, place);
        faults(deep("", 1), 3, place);
        faults(deep("$in", 1), 4, place);
        faults(deep("b", Doc.of()), -1, -1);
    }

    /** So many elements, each of which is one of a filter and one of conditions. */
    private static Doc pairs(int elements) {
        Doc made = Doc.of();
        for (int i = 0; i < elements; i++) {
            made.with("n" + i, i % 2 == 0 ? (Object) i : Doc.of("$lt", null));
        }
        return made;
    }

    /** So many elements of filters and conditions. */
    private static Doc counting(int both) {
        return both % 2 == 0 ? pairs(both / 2) : pairs(both / 2).with("$nor", Doc.row(Doc.of()));
    }

    /** That a filter with so many of both has them, and no fault; or fault 5 at this place. */
    private static void counts(Doc filter, int both, int place) {
        FilterReader x = new FilterReader();
        Check.due("filter of " + filter, Check.filter(x, 0, filter), both <= 100 ? 0 : 5);
        Check.due("place() of " + filter, x.place(), place);
        Check.due("many(0, 1) of " + filter, x.many(0, 1), both <= 100 ? both : 0);
    }

    private static int end(Doc filter) {
        return filter.bytes().length - 1;
    }

    private static void moreThan100() {
        counts(Doc.of(), 0, -1);
        counts(Doc.of("a", 1), 2, -1);
        counts(Doc.of("a", Doc.of("$eq", 1)), 2, -1);
        for (int count = 97; count <= 100; count++) {
            counts(counting(count), count, -1);
        }
        valuesAlone();
        conditions();
        withinOthers();
        whatDoesNotCount();
    }

    private static void valuesAlone() {
        counts(pairs(49), 98, -1);
        counts(pairs(50), 100, -1);
        counts(pairs(51), 102, end(pairs(50)));
        counts(pairs(60), 120, end(pairs(50)));
        // The element that makes 101 or 102 of 99 or 100 is where the fault stands.
        counts(counting(98).with("x", 1), 100, -1);
        counts(counting(99).with("x", 1), 101, end(counting(99)));
        counts(counting(100).with("x", 1), 102, end(counting(100)));
        counts(counting(98).with("x", 1).with("y", 1), 102, end(counting(98).with("x", 1)));
    }

    private static void conditions() {
        counts(counting(98).with("x", Doc.of("$eq", 1)), 100, -1);
        // A path that is number 100 with a condition that is number 101.
        counts(counting(99).with("x", Doc.of("$eq", 1)), 101, end(counting(99)) + 1 + 1 + 1 + 4);
        counts(counting(100).with("x", Doc.of("$eq", 1)), 102, end(counting(100)));
        counts(counting(97).with("x", Doc.of("$gt", null, "$lt", null)), 100, -1);
        counts(counting(97).with("x", Doc.of("$gt", null, "$lt", null, "$ne", null)), 101, end(counting(97)) + 7 + 5 + 5);
    }

    private static void withinOthers() {
        Doc two = Doc.row(Doc.of("x", 1));
        for (String join : JOINS) {
            counts(pairs(49).with(join, Doc.row(Doc.of())), 99, -1);
            counts(pairs(48).with(join, two), 99, -1);
            counts(pairs(49).with(join, two), 101, end(pairs(49)) + 1 + join.length() + 1 + 4 + 3 + 4);
            counts(pairs(50).with(join, Doc.row(Doc.of())), 101, end(pairs(50)));
        }
        counts(pairs(49).with("$and", Doc.row(Doc.of())).with("$or", Doc.row(Doc.of())), 100, -1);
        Doc elem = Doc.of("$elem", Doc.of("x", 1));
        counts(pairs(48).with("e", elem), 100, -1);
        counts(counting(97).with("e", elem), 101, end(counting(97)) + 3 + 4 + 7 + 4);
        Doc elemConditions = Doc.of("$elem", Doc.of("$lt", 1, "$gt", 1));
        counts(pairs(48).with("e", elemConditions), 100, -1);
        counts(counting(97).with("e", elemConditions), 101, end(counting(97)) + 3 + 4 + 7 + 4 + 9);
        Doc not = Doc.of("$not", Doc.of("$lt", 1, "$gt", 1));
        counts(pairs(48).with("e", not), 100, -1);
        counts(counting(97).with("e", not), 101, end(counting(97)) + 3 + 4 + 6 + 4 + 9);
    }

    private static void whatDoesNotCount() {
        Doc items = Doc.row();
        for (int i = 0; i < 120; i++) {
            items.item(Doc.of());
        }
        counts(Doc.of("$and", items), 1, -1);
        counts(pairs(49).with("x", Doc.of("$in", items)), 100, -1);
        counts(pairs(49).with("x", items), 100, -1);
        counts(pairs(49).with("x", pairs(40)), 100, -1);
        counts(pairs(49).with("x", Doc.of("$lt", pairs(40))), 100, -1);
        counts(pairs(49).with("a.b.c.d.e.f.g.h", 1), 100, -1);
    }
}
