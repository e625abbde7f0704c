import java.util.Arrays;
import java.util.List;

/** Promises 1 to 9, sentence by sentence: each call at its edges, and what a refused one changes. */
public final class PromisesTest {
    private static final String NEW = "Promise 1: A new object";
    private static final String FEED = "Promise 2: feed";
    private static final String READ = "Promise 3: read";
    private static final String FILTER = "Promise 4: filter";
    private static final String PLACE = "Promise 5: place";
    private static final String MANY = "Promise 6: many";
    private static final String HOLDS = "Promise 7: holds";
    private static final String FAILS = "Promise 8: fails";
    private static final String WHICH = "Promise 9: which";

    private static final byte[] OLD = Check.OLD.bytes();
    private static final byte[] NO_DOCUMENT = {5, 0, 0, 0, 1};

    public static void main(String[] args) {
        Sentence.testAll(sentences());
    }

    static List<Sentence> sentences() {
        return List.of(
            new Sentence("What it is", "An object is used for at most 512 calls after it has been made; what later calls "
                + "answer is free.", PromisesTest::upTo512Calls),
            new Sentence(NEW, "Slots 0 to 3 have documents without elements, filters 0 to 3 are documents without elements",
                PromisesTest::newSlotsAndFilters),
            new Sentence(NEW, "nothing is on the tape.", PromisesTest::newTape),
            new Sentence(FEED, "Twenty bytes come behind those on the tape: four of each number, the highest first: how many "
                + "there are.", PromisesTest::twentyBytes),
            new Sentence(FEED, "-1, doing nothing, when there would be more than 2,000.", PromisesTest::noMoreThan2000),
            new Sentence(READ, "The first n bytes of the tape (which is empty then) are read as a document into a slot: 0",
                PromisesTest::readsTheFirst),
            new Sentence(READ, "-1 when they are none (the slot stays).", PromisesTest::readsNone),
            new Sentence(READ, "-2, doing nothing, when there is no such slot, or n is below 0 or more than there are.",
                PromisesTest::readRefused),
            new Sentence(FILTER, "Likewise as filter f: 0, the fault, or -1 when they are no document (it stays then).",
                PromisesTest::filtersTheFirst),
            new Sentence(FILTER, "-2, doing nothing, when there is no such filter, or n is not so.",
                PromisesTest::filterRefused),
            new Sentence(PLACE, "The place of the latest filter()'s fault", PromisesTest::latestPlace),
            new Sentence(PLACE, "-1 when it was 0, or -1 (or before any).", PromisesTest::noPlace),
            new Sentence(PLACE, "One that was -2 does not count.", PromisesTest::placeBehindRefused),
            new Sentence(MANY, "Of a filter: 0 how many elements it has, 1 how many elements of filters and conditions (as in "
                + "fault 5), 2 how many paths (one for each element whose name is a path), 3 how many of these are steps in "
                + "all.", PromisesTest::howMany),
            new Sentence(MANY, "-1 when there is no such filter or what.", PromisesTest::manyRefused),
            new Sentence(HOLDS, "Whether a filter holds for the document of a slot: 1, 0", PromisesTest::whetherItHolds),
            new Sentence(HOLDS, "-1 when there is no such filter or slot.", PromisesTest::holdsRefused),
            new Sentence(FAILS, "The number of the first of a filter's elements that does not hold for the document of a slot",
                PromisesTest::firstThatFails),
            new Sentence(FAILS, "-1 when all do", PromisesTest::noneFails),
            new Sentence(FAILS, "-2 when there is no such filter or slot.", PromisesTest::failsRefused),
            new Sentence(WHICH, "How many slots' documents hold, as bits (2 to the slot).", PromisesTest::bitsOfSlots),
            new Sentence(WHICH, "-1 when there is no such filter.", PromisesTest::whichRefused));
    }

    private static String xs(int length) {
        char[] letters = new char[length];
        Arrays.fill(letters, 'x');
        return new String(letters);
    }

    // ---- 512 calls

    private static void upTo512Calls() {
        FilterReader x = new FilterReader();
        // 5 documents of 2,000 bytes with 101 calls each are 505 calls.
        Doc small = Doc.of("#", null);
        for (int i = 0; i < 498; i++) {
            small.with(Integer.toString(i + 36, 36), null);
        }
        for (int i = 0; i < 5; i++) {
            Check.due("read number " + i, Check.read(x, i % 4, small), 0);
        }
        Check.due("call 506", x.feed(0x0f000000, 0x10230001, 0, 0, 0), 20);
        Check.due("call 507", x.filter(0, 12), -1);
        Check.due("call 508", x.feed(0x08000000, 0x0a230000, 0, 0, 0), 20);
        Check.due("call 509", x.filter(0, 8), 0);
        Check.due("call 510", x.many(0, 1), 2);
        Check.due("call 511", x.place(), -1);
        Check.due("call 512", x.which(0), 15);
        FilterReader y = new FilterReader();
        Check.read(y, 1, OLD);
        Check.filter(y, 2, OLD);
        for (int call = 5; call <= 512; call++) {
            Check.due("call " + call, y.which(2), 2);
        }
    }

    // ---- promise 1

    private static void newSlotsAndFilters() {
        FilterReader x = new FilterReader();
        for (int f = -1; f <= 4; f++) {
            boolean one = f >= 0 && f < 4;
            Check.due("which(" + f + ")", x.which(f), one ? 15 : -1);
            for (int i = -1; i <= 4; i++) {
                boolean both = one && i >= 0 && i < 4;
                Check.due("many(" + f + ", " + i + ")", x.many(f, i), both ? 0 : -1);
                Check.due("holds(" + f + ", " + i + ")", x.holds(f, i), both ? 1 : -1);
                Check.due("fails(" + f + ", " + i + ")", x.fails(f, i), both ? -1 : -2);
            }
        }
        // No element can be found in any of the documents.
        for (String name : new String[] {"a", "0", "a.b"}) {
            Check.filter(x, 0, Doc.of(name, Doc.of("$exists", true)));
            Check.due("which of some " + name, x.which(0), 0);
            Check.filter(x, 0, Doc.of(name, null));
            Check.due("which of no " + name, x.which(0), 15);
        }
        // One object has nothing of another.
        FilterReader y = Check.filled();
        String filled = Check.told(y);
        FilterReader z = new FilterReader();
        Check.due("which(3) of a new object beside", z.which(3), 15);
        Check.due("place() of a new object beside", z.place(), -1);
        Check.read(z, 0, Doc.of("a", 9));
        Check.filter(z, 0, Doc.of("$x", 1));
        Check.filter(z, 1, Doc.of("a", 9));
        Check.sameTold("told behind calls of another object", filled, y);
    }

    private static void newTape() {
        Check.due("read(0, 1)", new FilterReader().read(0, 1), -2);
        Check.due("filter(0, 1)", new FilterReader().filter(0, 1), -2);
        Check.due("read(0, 0)", new FilterReader().read(0, 0), -1);
        Check.due("filter(0, 0)", new FilterReader().filter(0, 0), -1);
        Check.due("feed", new FilterReader().feed(-1, -1, -1, -1, -1), 20);
        // Nor is there anything of another object's tape.
        FilterReader full = new FilterReader();
        for (int i = 0; i < 100; i++) {
            full.feed(-1, -1, -1, -1, -1);
        }
        Check.due("feed beside a full one", new FilterReader().feed(-1, -1, -1, -1, -1), 20);
        Check.due("read(0, 20) beside a full one", new FilterReader().read(0, 20), -2);
    }

    // ---- promise 2

    private static void twentyBytes() {
        FilterReader x = new FilterReader();
        // {a: "abcde"}, 18 bytes, and two behind them: each byte of the five numbers has its place.
        Check.due("feed", x.feed(0x12000000, 0x02610006, 0x00000061, 0x62636465, 0x00007f7f), 20);
        Check.due("read of a text", x.read(0, 18), 0);
        Check.filter(x, 0, Doc.of("a", "abcde"));
        Check.due("which of the text", x.which(0), 1);
        // A text over two feeds, whose bytes have to follow each other.
        Check.due("feed of 20", x.feed(0x22000000, 0x02616161, 0x61616161, 0x61000f00, 0x00006263), 20);
        Check.due("feed of 20 more", x.feed(0x64656667, 0x68696a6b, 0x6c6d6e6f, 0x00000000, 0), 40);
        Check.due("read over two feeds", x.read(1, 34), 0);
        Check.filter(x, 1, Doc.of("aaaaaaaa", "bcdefghijklmno"));
        Check.due("which over two feeds", x.which(1), 2);
        // Bytes from 128 on, and numbers below 0.
        Check.due("feed of letters", x.feed(0x10000000, 0x02c3a400, 0x04000000, 0xe282ac00, 0x00ffffff), 20);
        Check.due("read of letters", x.read(2, 16), -1);
        Check.due("feed of letters", x.feed(0x11000000, 0x02c3a400, 0x04000000, 0xe282ac00, 0x00ffffff), 20);
        Check.due("read of letters", x.read(2, 17), 0);
        Check.filter(x, 2, Doc.of("\u00e4", "\u20ac"));
        Check.due("which of letters", x.which(2), 4);
        FilterReader y = new FilterReader();
        int[] numbers = {0, 1, -1, Integer.MIN_VALUE, Integer.MAX_VALUE};
        for (int i = 1; i <= 100; i++) {
            int number = numbers[i % 5];
            Check.due("feed number " + i, y.feed(number, number, number, number, number), 20 * i);
        }
    }

    private static void noMoreThan2000() {
        FilterReader x = Check.filled();
        String before = Check.told(x);
        byte[] full = Doc.of("a", xs(1987)).bytes();
        Check.feed(x, Arrays.copyOf(full, 1980));
        Check.due("the 1,980 bytes are there", x.read(3, 1981), -2);
        Check.due("feed of the last 20", x.feed(0x78787878, 0x78787878, 0x78787878, 0x78787878, 0x78780000), 2000);
        for (int i = 0; i < 3; i++) {
            Check.due("feed of 20 more", x.feed(-1, i, Integer.MIN_VALUE, Integer.MAX_VALUE, 0), -1);
        }
        Check.sameTold("told behind refused feeds", before, x);
        Check.due("read of 2,001", x.read(0, 2001), -2);
        Check.due("read of the 2,000", x.read(0, 2000), 0);
        Check.filter(x, 0, Doc.of("a", Doc.of("$gt", xs(1900))));
        Check.due("which of the 2,000", x.which(0), 1);
        // The tape is empty again, and takes as many.
        Check.due("feed behind it", x.feed(0, 0, 0, 0, 0), 20);
        for (int i = 2; i <= 100; i++) {
            Check.due("feed number " + i + " again", x.feed(0, 0, 0, 0, 0), 20 * i);
        }
        Check.due("feed number 101 again", x.feed(0, 0, 0, 0, 0), -1);
    }

    // ---- promise 3

    private static void readsTheFirst() {
        for (int slot = 0; slot < 4; slot++) {
            FilterReader x = Check.filled();
            int place = x.place();
            Check.due("read into " + slot, Check.read(x, slot, OLD), 0);
            Check.due("place() behind a read", x.place(), place);
            Check.due("the tape behind a read", x.feed(0, 0, 0, 0, 0), 20);
            for (int f = 0; f < 4; f++) {
                Check.due("which(" + f + ")", x.which(f), f == slot ? 0 : 1 << f);
            }
            x.read(0, 1);
            Check.filter(x, 0, OLD);
            Check.due("which of what was read into " + slot, x.which(0), 1 << slot);
        }
        // Only the first n of them, and none of the others is left.
        FilterReader x = new FilterReader();
        Check.feed(x, OLD);
        Check.feed(x, OLD);
        Check.due("feed", x.feed(0, 0, 0, 0, 0), 60);
        Check.due("read of the first", x.read(0, OLD.length), 0);
        Check.due("read(0, 1) then", x.read(0, 1), -2);
        Check.due("read(0, 0) then", x.read(0, 0), -1);
        Check.due("feed then", x.feed(0, 0, 0, 0, 0), 20);
        // All bytes of the tape, and all 2,000.
        FilterReader y = new FilterReader();
        Check.due("read of 20", Check.read(y, 0, Doc.of("a", xs(7))), 0);
        Check.due("read of 2,000", Check.read(y, 0, Doc.of("a", xs(1987))), 0);
        Check.due("read of 40", Check.read(y, 0, Doc.of("a", xs(27))), 0);
        // The least document, and another into the same slot.
        Check.due("read of 5", Check.read(y, 0, Doc.of()), 0);
        Check.filter(y, 0, Doc.of("a", null));
        Check.due("which of none", y.which(0), 15);
    }

    private static void readsNone() {
        for (int slot = 0; slot < 4; slot++) {
            FilterReader x = Check.filled();
            String before = Check.told(x);
            Check.due("read of no document into " + slot, Check.read(x, slot, NO_DOCUMENT), -1);
            Check.sameTold("told behind it", before, x);
            Check.due("the tape is empty behind it", x.feed(0, 0, 0, 0, 0), 20);
            Check.due("read of no bytes into " + slot, x.read(slot, 0), -1);
            Check.sameTold("told behind no bytes", before, x);
            Check.due("the tape is empty behind no bytes", x.feed(0, 0, 0, 0, 0), 20);
            // What is wrong only at its end: nothing of it is kept.
            byte[] late = Doc.of("a", 9, "b", true).bytes();
            late[late.length - 2] = 2;
            x.read(slot, 0);
            Check.due("read of what is wrong at its end", Check.read(x, slot, late), -1);
            Check.sameTold("told behind what is wrong at its end", before, x);
        }
        FilterReader x = new FilterReader();
        Check.feed(x, OLD);
        Check.due("one byte too few", x.read(0, OLD.length - 1), -1);
        Check.feed(x, OLD);
        Check.due("one byte too many", x.read(0, OLD.length + 1), -1);
        Check.feed(x, OLD);
        Check.due("the right ones", x.read(0, OLD.length), 0);
    }

    private static void readRefused() {
        for (int slot : Check.NO_NUMBERS) {
            for (int n : new int[] {28, 0, 5, 40}) {
                Check.doesNothing("read(" + slot + ", " + n + ")", x -> x.read(slot, n), -2);
            }
            Check.doesNothing("read(" + slot + ", -1)", x -> x.read(slot, -1), -2);
            Check.doesNothing("read(" + slot + ", 41)", x -> x.read(slot, 41), -2);
        }
        for (int n : new int[] {-1, -2, -28, 41, 42, 60, 2000, 2001, Integer.MIN_VALUE, Integer.MAX_VALUE, 256 * 256 + 28}) {
            for (int slot = 0; slot < 4; slot++) {
                int into = slot;
                Check.doesNothing("read(" + slot + ", " + n + ")", x -> x.read(into, n), -2);
            }
        }
        FilterReader x = new FilterReader();
        for (int there = 0; there <= 2000; there += 20) {
            Check.due("read(0, " + (there + 1) + ") of " + there, x.read(0, there + 1), -2);
            x.feed(0, 0, 0, 0, 0);
        }
        Check.due("read(0, 2000) of 2,000", x.read(0, 2000), -1);
    }

    // ---- promise 4

    private static void filtersTheFirst() {
        for (int f = 0; f < 4; f++) {
            FilterReader x = Check.filled();
            Check.due("filter " + f, Check.filter(x, f, Doc.of("a", Doc.of("$exists", true))), 0);
            Check.due("the tape behind a filter", x.feed(0, 0, 0, 0, 0), 20);
            for (int other = 0; other < 4; other++) {
                Check.due("which(" + other + ")", x.which(other), other == f ? 15 : 1 << other);
            }
        }
        // The fault, and what is no document: the filter stays, and so do the others.
        byte[][] wrong = {Doc.of("$x", 1).bytes(), Doc.of("$or", 1).bytes(), Doc.of("", 1).bytes(),
            Doc.of("a", Doc.of("$in", 1)).bytes(), paths(51).bytes(), NO_DOCUMENT, {}};
        int[] answers = {1, 2, 3, 4, 5, -1, -1};
        for (int i = 0; i < wrong.length; i++) {
            for (int f = 0; f < 4; f++) {
                FilterReader x = Check.filled();
                Check.filter(x, 0, wrong[i]);
                String before = Check.told(x);
                Check.due("filter of wrong number " + i + " as " + f, Check.filter(x, f, wrong[i]), answers[i]);
                Check.sameTold("told behind wrong number " + i, before, x);
                Check.due("which(" + f + ") behind it", x.which(f), 1 << f);
                Check.due("the tape is empty behind it", x.feed(0, 0, 0, 0, 0), 20);
            }
        }
        FilterReader x = new FilterReader();
        Check.feed(x, OLD);
        Check.due("one byte too few", x.filter(0, OLD.length - 1), -1);
        Check.feed(x, OLD);
        Check.due("one byte too many", x.filter(0, OLD.length + 1), -1);
        Check.feed(x, OLD);
        Check.feed(x, OLD);
        Check.due("the first of them", x.filter(0, OLD.length), 0);
        Check.due("none of the others is left", x.filter(0, 1), -2);
        Check.due("many(0, 0)", x.many(0, 0), 1);
        Check.due("a filter of 2,000 bytes", Check.filter(x, 0, Doc.of("a", xs(1987))), 0);
        Check.due("a filter of 5 bytes", Check.filter(x, 0, Doc.of()), 0);
        Check.due("many(0, 0) of it", x.many(0, 0), 0);
        Check.due("which of it", x.which(0), 15);
    }

    private static void filterRefused() {
        for (int f : Check.NO_NUMBERS) {
            for (int n : new int[] {28, 0, 5, 40}) {
                Check.doesNothing("filter(" + f + ", " + n + ")", x -> x.filter(f, n), -2);
            }
            Check.doesNothing("filter(" + f + ", -1)", x -> x.filter(f, -1), -2);
            Check.doesNothing("filter(" + f + ", 41)", x -> x.filter(f, 41), -2);
        }
        for (int n : new int[] {-1, -2, -28, 41, 42, 60, 2000, 2001, Integer.MIN_VALUE, Integer.MAX_VALUE, 256 * 256 + 28}) {
            for (int f = 0; f < 4; f++) {
                int as = f;
                Check.doesNothing("filter(" + f + ", " + n + ")", x -> x.filter(as, n), -2);
            }
        }
        FilterReader x = new FilterReader();
        for (int there = 0; there <= 2000; there += 20) {
            Check.due("filter(0, " + (there + 1) + ") of " + there, x.filter(0, there + 1), -2);
            x.feed(0, 0, 0, 0, 0);
        }
        Check.due("filter(0, 2000) of 2,000", x.filter(0, 2000), -1);
    }

    // ---- promise 5

    private static void latestPlace() {
        FilterReader x = new FilterReader();
        Check.filter(x, 0, Doc.of("", 1));
        Check.due("place() of the first element", x.place(), 4);
        Check.due("place() once more", x.place(), 4);
        Check.filter(x, 3, Doc.of("a", 1, "$x", 1));
        Check.due("place() of the second element, as another filter", x.place(), 11);
        Check.filter(x, 1, Doc.of("$or", Doc.row(Doc.of(), 1)));
        Check.due("place() of an item", x.place(), 21);
        Check.filter(x, 1, Doc.of("a", xs(1969), "b", Doc.of("$x", 1)));
        Check.due("place() far behind", x.place(), 1988);
        // No other call is a filter().
        Check.read(x, 0, Doc.of("", 1));
        Check.read(x, 0, NO_DOCUMENT);
        Check.due("place() behind reads", x.place(), 1988);
        x.holds(1, 0);
        x.fails(1, 0);
        x.which(1);
        x.many(1, 1);
        x.feed(0, 0, 0, 0, 0);
        Check.due("place() behind calls that ask", x.place(), 1988);
        Check.doesNothing("place()", y -> y.place(), 18);
    }

    private static void noPlace() {
        Check.due("place() before any", new FilterReader().place(), -1);
        FilterReader x = new FilterReader();
        Check.filter(x, 0, Doc.of("a", 1));
        Check.due("place() behind 0", x.place(), -1);
        Check.filter(x, 0, Doc.of("", 1));
        Check.due("place() behind a fault", x.place(), 4);
        Check.filter(x, 1, Doc.of("a", 1));
        Check.due("place() behind a fault and 0", x.place(), -1);
        Check.filter(x, 0, Doc.of("", 1));
        Check.filter(x, 0, NO_DOCUMENT);
        Check.due("place() behind a fault and -1", x.place(), -1);
        Check.filter(x, 0, Doc.of("", 1));
        x.filter(2, 0);
        Check.due("place() behind a fault and -1 of no bytes", x.place(), -1);
        FilterReader y = new FilterReader();
        y.filter(0, 1);
        y.filter(4, 0);
        Check.read(y, 0, OLD);
        Check.due("place() before any but -2", y.place(), -1);
    }

    private static void placeBehindRefused() {
        FilterReader x = new FilterReader();
        Check.filter(x, 0, Doc.of("a", 1, "", 1));
        Check.due("place() of a fault", x.place(), 11);
        for (int f : Check.NO_NUMBERS) {
            Check.due("filter(" + f + ", 0)", x.filter(f, 0), -2);
            Check.due("place() behind it", x.place(), 11);
        }
        for (int n : new int[] {-1, 1, 20, Integer.MIN_VALUE, Integer.MAX_VALUE}) {
            Check.due("filter(0, " + n + ")", x.filter(0, n), -2);
            Check.due("place() behind it", x.place(), 11);
        }
        Check.filter(x, 0, Doc.of("a", 1));
        Check.due("filter(4, 0)", x.filter(4, 0), -2);
        Check.due("place() behind 0 and -2", x.place(), -1);
    }

    // ---- promise 6

    private static void counts(Doc filter, int elements, int both, int paths, int steps) {
        FilterReader x = new FilterReader();
        Check.due("filter of " + filter, Check.filter(x, 3, filter), 0);
        int[] want = {elements, both, paths, steps};
        for (int what = 0; what < 4; what++) {
            Check.due("many(3, " + what + ") of " + filter, x.many(3, what), want[what]);
            Check.due("many(2, " + what + ") beside " + filter, x.many(2, what), 0);
        }
    }

    private static void howMany() {
        counts(Doc.of(), 0, 0, 0, 0);
        counts(Doc.of("a", 1), 1, 2, 1, 1);
        counts(Doc.of("a", Doc.of()), 1, 2, 1, 1);
        counts(Doc.of("a", Doc.of("b", 1, "c.d", 2)), 1, 2, 1, 1);
        counts(Doc.of("a.b", Doc.of("$eq", 1)), 1, 2, 1, 2);
        counts(Doc.of("a.b.c", Doc.of("$gt", 1, "$lt", 2)), 1, 3, 1, 3);
        counts(Doc.of("a", 1, "b.c", 2), 2, 4, 2, 3);
        counts(Doc.of("1.2.3.4.5.6.7.8", 1), 1, 2, 1, 8);
        counts(Doc.of("a", Doc.of("$eq", Doc.of("$lt", 1, "a", 2))), 1, 2, 1, 1);
        counts(Doc.of("a", Doc.of("$in", Doc.row(1, 2, Doc.of("a", 1)))), 1, 2, 1, 1);
        counts(Doc.of("$and", Doc.row(Doc.of())), 1, 1, 0, 0);
        counts(Doc.of("$and", Doc.row(Doc.of(), Doc.of(), Doc.of())), 1, 1, 0, 0);
        counts(Doc.of("$or", Doc.row(Doc.of("a.b", 1), Doc.of("c", 1, "d.e.f", Doc.of("$ne", 1)))), 1, 7, 3, 6);
        counts(Doc.of("$or", Doc.row(Doc.of("a", 1)), "$nor", Doc.row(Doc.of("a", 1)), "a", 1), 3, 8, 3, 3);
        counts(Doc.of("a", Doc.of("$not", Doc.of("$lt", 1, "$gt", 1))), 1, 4, 1, 1);
        counts(Doc.of("a", Doc.of("$elem", Doc.of("$lt", 1, "$gt", 1))), 1, 4, 1, 1);
        counts(Doc.of("a", Doc.of("$elem", Doc.of("b.c", 1, "d", Doc.of("$gt", 1)))), 1, 6, 3, 4);
        counts(Doc.of("a", Doc.of("$elem", Doc.of())), 1, 2, 1, 1);
        counts(Doc.of("a", Doc.of("$elem", Doc.of("$nor", Doc.row(Doc.of("x", 1))))), 1, 5, 2, 2);
        Doc fullest = Doc.of();
        for (int i = 10; i < 60; i++) {
            fullest.with(i + ".b.c.d.e.f.g.h", null);
        }
        counts(fullest, 50, 100, 50, 400);
        Doc joined = Doc.of("$and", Doc.row(paths(49)));
        counts(joined, 1, 99, 49, 49);
        for (int f = 0; f < 4; f++) {
            for (int what = 0; what < 4; what++) {
                int of = f;
                int asked = what;
                int due = Check.filled().many(f, what);
                Check.doesNothing("many(" + f + ", " + what + ")", x -> x.many(of, asked), due);
            }
        }
    }

    /** A filter with so many paths n0, n1, .., each with its number as the value alone. */
    private static Doc paths(int elements) {
        Doc made = Doc.of();
        for (int i = 0; i < elements; i++) {
            made.with("n" + i, i);
        }
        return made;
    }

    private static void manyRefused() {
        for (int i : Check.NO_NUMBERS) {
            Check.doesNothing("many(0, " + i + ")", x -> x.many(0, i), -1);
            Check.doesNothing("many(3, " + i + ")", x -> x.many(3, i), -1);
            Check.doesNothing("many(" + i + ", 0)", x -> x.many(i, 0), -1);
            Check.doesNothing("many(" + i + ", 3)", x -> x.many(i, 3), -1);
            Check.doesNothing("many(" + i + ", " + i + ")", x -> x.many(i, i), -1);
        }
    }

    // ---- promises 7 to 9

    private static void whetherItHolds() {
        for (int f = 0; f < 4; f++) {
            for (int slot = 0; slot < 4; slot++) {
                int of = f;
                int in = slot;
                Check.doesNothing("holds(" + f + ", " + slot + ")", x -> x.holds(of, in), f == slot ? 1 : 0);
            }
        }
        Check.due("holds of a filter without elements", new FilterReader().holds(3, 3), 1);
        FilterReader x = new FilterReader();
        Check.filter(x, 1, OLD);
        Check.due("holds of a document without elements", x.holds(1, 3), 0);
        Check.read(x, 3, OLD);
        Check.due("holds of the document that is read then", x.holds(1, 3), 1);
        Check.filter(x, 1, Doc.of("old", 2));
        Check.due("holds of the filter that is read then", x.holds(1, 3), 0);
    }

    private static void holdsRefused() {
        for (int i : Check.NO_NUMBERS) {
            Check.doesNothing("holds(0, " + i + ")", x -> x.holds(0, i), -1);
            Check.doesNothing("holds(3, " + i + ")", x -> x.holds(3, i), -1);
            Check.doesNothing("holds(" + i + ", 0)", x -> x.holds(i, 0), -1);
            Check.doesNothing("holds(" + i + ", 3)", x -> x.holds(i, 3), -1);
            Check.doesNothing("holds(" + i + ", " + i + ")", x -> x.holds(i, i), -1);
        }
    }

    private static void firstThatFails() {
        FilterReader x = new FilterReader();
        Doc filter = Doc.of("a", 1, "$or", Doc.row(Doc.of("b", 2), Doc.of("b", 3)), "b", Doc.of("$lt", 3));
        filter.with("$nor", Doc.row(Doc.of("c", 1)));
        Check.filter(x, 0, filter);
        Check.read(x, 0, Doc.of("a", 2, "b", 3));
        Check.read(x, 1, Doc.of("a", 1, "b", 4));
        Check.read(x, 2, Doc.of("a", 1, "b", 3, "c", 1));
        Check.read(x, 3, Doc.of("a", 1, "b", 2, "c", 1));
        for (int slot = 0; slot < 4; slot++) {
            Check.due("fails(0, " + slot + ")", x.fails(0, slot), slot);
        }
        // The last of fifty; and the number is that of the filter's own elements.
        Doc fifty = paths(50);
        Check.filter(x, 1, fifty);
        Doc document = paths(50);
        Check.read(x, 0, document);
        Check.due("fails of none of fifty", x.fails(1, 0), -1);
        for (int i : new int[] {49, 48, 1, 0}) {
            document.values.set(i, -1);
            Check.read(x, 0, document);
            Check.due("fails of number " + i, x.fails(1, 0), i);
        }
        Check.filter(x, 2, Doc.of("$and", Doc.row(Doc.of("n2", 2, "n3", 3), Doc.of("n0", 0)), "n1", 1));
        Check.due("fails of one within the first", x.fails(2, 0), 0);
        for (int f = 0; f < 3; f++) {
            int of = f;
            Check.doesNothing("fails(" + f + ", 3)", y -> y.fails(of, 3), 0);
        }
        Check.doesNothing("fails(3, 0)", y -> y.fails(3, 0), 1);
    }

    private static void noneFails() {
        Check.due("fails of no elements", new FilterReader().fails(0, 3), -1);
        for (int f = 0; f < 4; f++) {
            int of = f;
            Check.doesNothing("fails(" + f + ", " + f + ")", x -> x.fails(of, of), -1);
        }
    }

    private static void failsRefused() {
        for (int i : Check.NO_NUMBERS) {
            Check.doesNothing("fails(0, " + i + ")", x -> x.fails(0, i), -2);
            Check.doesNothing("fails(3, " + i + ")", x -> x.fails(3, i), -2);
            Check.doesNothing("fails(" + i + ", 0)", x -> x.fails(i, 0), -2);
            Check.doesNothing("fails(" + i + ", 3)", x -> x.fails(i, 3), -2);
            Check.doesNothing("fails(" + i + ", " + i + ")", x -> x.fails(i, i), -2);
        }
    }

    private static void bitsOfSlots() {
        FilterReader x = new FilterReader();
        for (int bits = 0; bits < 16; bits++) {
            for (int slot = 0; slot < 4; slot++) {
                Check.read(x, slot, Doc.of("a", bits >> slot & 1));
            }
            Check.filter(x, bits % 4, Doc.of("a", 1));
            Check.due("which of the bits " + bits, x.which(bits % 4), bits);
        }
        for (int f = 0; f < 4; f++) {
            int of = f;
            Check.doesNothing("which(" + f + ")", y -> y.which(of), 1 << f);
        }
    }

    private static void whichRefused() {
        for (int f : Check.NO_NUMBERS) {
            Check.doesNothing("which(" + f + ")", x -> x.which(f), -1);
        }
    }
}
