import java.util.Arrays;
import java.util.List;

/** The terms PATH, LEAVES and WITH ITEMS, sentence by sentence. */
public final class LeavesTest {
    private static final String PATH = "Terms: PATH";
    private static final String LEAVES = "Terms: LEAVES";

    public static void main(String[] args) {
        Sentence.testAll(sentences());
    }

    static List<Sentence> sentences() {
        return List.of(
            new Sentence(PATH, "A PATH is names with a point between two of them: 1 to 8 STEPS, none of them empty, "
                + "of right UTF-8 without a 0.", LeavesTest::paths),
            new Sentence(LEAVES, "The LEAVES of a path at a value: behind the last step the value itself.",
                LeavesTest::behindTheLastStep),
            new Sentence(LEAVES, "At a document a step takes the element of that name, where the others go on; "
                + "if there is none, one leaf MISSING.", LeavesTest::atADocument),
            new Sentence(LEAVES, "At a row a step that is decimal digits (0, or without a 0 ahead) takes the item of "
                + "that number, if there is one, where the others go on", LeavesTest::numberedItems),
            new Sentence(LEAVES, "and then, with the step itself still to be taken, it goes on at each item that is a "
                + "document, in order.", LeavesTest::itemsThatAreDocuments),
            new Sentence(LEAVES, "(So at a row there may be no leaf at all.)", LeavesTest::noLeaf),
            new Sentence(LEAVES, "At any other value: MISSING.", LeavesTest::atAnyOtherValue),
            new Sentence(LEAVES, "Leaves come in the order in which they are met; one value may be met more than once.",
                LeavesTest::metMoreThanOnce),
            new Sentence("Terms: WITH ITEMS", "WITH ITEMS: each leaf, and behind it, when it is a row, its items.",
                LeavesTest::withItems));
    }

    /** That the leaves of a path have, or do not have, one that is the same as a value. */
    private static void has(String path, Doc document, Object leaf, boolean want) {
        Check.holds(Doc.of(path, Doc.of("$eq", leaf)), document, want);
    }

    /** That all leaves are MISSING, or there is none; or that some leaf is not. */
    private static void exists(String path, Doc document, boolean want) {
        Check.holds(Doc.of(path, Doc.of("$exists", true)), document, want);
        Check.holds(Doc.of(path, Doc.of("$exists", false)), document, !want);
    }

    /** That some leaf is MISSING (no document here has NOTHING), or that there is none at all. */
    private static void misses(String path, Doc document, boolean want) {
        Check.holds(Doc.of(path, Doc.of("$eq", null)), document, want);
    }

    private static void paths() {
        StringBuilder path = new StringBuilder();
        for (int steps = 1; steps <= 40; steps++) {
            path.append(steps == 1 ? "s" : ".s");
            Check.faults(Doc.of(path.toString(), 1), steps <= 8 ? 0 : 3, steps <= 8 ? -1 : 4);
        }
        String[] none = {"", ".", "..", ".......", "........", ".a", "a.", "a..b", "a.b.", ".a.b", "a.b..c.d.e.f.g",
            "a.b.c.d.e.f.g.", ".b.c.d.e.f.g.h", "a.b.c.d.e.f.g.h.", ".a.b.c.d.e.f.g.h"};
        for (String name : none) {
            Check.faults(Doc.of(name, 1), 3, 4);
            Check.faults(Doc.of(name, Doc.of("$eq", 1)), 3, 4);
        }
        String[] some = {"a", "0", " ", "a b", "\1", "\u007f", "\u0080", "\u00e4.\u20ac", "\ud83d\ude00.x", "-1.+2",
            "a.a.a.a.a.a.a.a", "0.0.0.0.0.0.0.0", "\u3002", "a\u2024b"};
        for (String name : some) {
            Check.right(Doc.of(name, 1));
        }
        char[] longStep = new char[1989];
        Arrays.fill(longStep, 's');
        Check.right(Doc.of(new String(longStep), 1));
        longStep[1000] = '.';
        Check.right(Doc.of(new String(longStep), 1));
        Check.reads("a path of wrong UTF-8", Check.around(10, 'a', '.', 0xc3, 0), -1);
        Check.reads("a path with a 0", Check.around(10, 'a', '.', 0, 'b', 0), -1);
        Doc eight = Doc.of("h", 1);
        for (String name : "g f e d c b a".split(" ")) {
            eight = Doc.of(name, eight);
        }
        has("a.b.c.d.e.f.g.h", eight, 1, true);
        has("a.b.c.d.e.f.g.h", eight, 2, false);
        has("a.b.c.d.e.f.g", eight, Doc.of("h", 1), true);
        exists("a.b.c.d.e.f.h", eight, false);
        exists("a.b.c.d.e.f.h.g", eight, false);
    }

    private static void behindTheLastStep() {
        Object[] values = {1, 1L, true, false, "", "x", Doc.of(), Doc.of("b", 1), Doc.row(), Doc.row(1, 2), null};
        for (Object value : values) {
            has("a", Doc.of("a", value), value, true);
            has("a.b", Doc.of("a", Doc.of("b", value)), value, true);
            has("a.0", Doc.of("a", Doc.row(value)), value, true);
            exists("a", Doc.of("a", value), true);
            if (value != null) {
                misses("a", Doc.of("a", value), false);
            }
        }
        has("a", Doc.of("a", Doc.of("a", 1)), 1, false);
        has("a", Doc.of("a", Doc.of("a", 1)), Doc.of("a", 1), true);
    }

    private static void atADocument() {
        Doc document = Doc.of("a", 1, "b", 2, "c", Doc.of("a", 3, "", 4), "", 5);
        has("a", document, 1, true);
        has("b", document, 2, true);
        has("c.a", document, 3, true);
        has("a", document, 3, false);
        for (String path : new String[] {"d", "A", "aa", "c.b", "c.aa", "c.a.a", "c.d.e.f", "0", "1", "c.0"}) {
            exists(path, document, false);
            misses(path, document, true);
        }
        exists("a", Doc.of(), false);
        misses("a", Doc.of(), true);
        misses("a.b.c.d.e.f.g.h", Doc.of(), true);
        // A point in a name is no point between two of them.
        has("a.b", Doc.of("a.b", 1), 1, false);
        misses("a.b", Doc.of("a.b", 1), true);
        has("a.b", Doc.of("a.b", 1, "a", Doc.of("b", 2)), 2, true);
        exists("a.b.c", Doc.of("a", Doc.of("b.c", 1)), false);
        // Digits are a name like others at a document.
        has("a.0", Doc.of("a", Doc.of("0", 1)), 1, true);
        has("a.00", Doc.of("a", Doc.of("00", 1)), 1, true);
        has("a.1", Doc.of("a", Doc.of("x", 1, "y", 2)), 2, false);
        has("\u00e4.\u20ac", Doc.of("\u00e4", Doc.of("\u20ac", 1)), 1, true);
        has("\u00e4", Doc.of("a\u0308", 1), 1, false);
        // The first and the last of many, each name alone.
        Doc many = Doc.of();
        for (int i = 0; i < 150; i++) {
            many.with("n" + i, i);
        }
        for (int i : new int[] {0, 1, 75, 148, 149}) {
            has("n" + i, many, i, true);
            has("n" + i, many, i + 1, false);
        }
        misses("n150", many, true);
    }

    private static void numberedItems() {
        Doc row = Doc.row();
        for (int items = 0; items <= 12; items++) {
            Doc document = Doc.of("a", row);
            for (int i = 0; i <= 14; i++) {
                exists("a." + i, document, i < items);
                has("a." + i, document, 100 + i, i < items);
            }
            row.item(100 + items);
        }
        Doc document = Doc.of("a", row);
        String[] noNumbers = {"00", "01", "010", "-0", "-1", "+1", " 1", "1 ", "0x1", "1e0", "\u0661", "\uff11", "a",
            "13", "100", "256", "65536", "2147483648", "4294967295", "4294967296", "4294967297", "9223372036854775808",
            "18446744073709551616", "18446744073709551617", "340282366920938463463374607431768211456"};
        for (String step : noNumbers) {
            exists("a." + step, document, false);
            misses("a." + step, document, true);
            Check.holds(Doc.of("a." + step, Doc.of("$gte", 0)), document, false);
        }
        // A name with a 0 ahead, or none of these digits, may still be in an item that is a document.
        has("a.00", Doc.of("a", Doc.row(1, Doc.of("00", 7))), 7, true);
        has("a.00", Doc.of("a", Doc.row(1, Doc.of("0", 7))), 7, false);
        has("a.01", Doc.of("a", Doc.row(1, 2)), 2, false);
        // The others go on at the item.
        Doc deep = Doc.of("a", Doc.row(5, Doc.row(6, Doc.row(7, 8)), Doc.of("b", 9)));
        has("a.1.1.0", deep, 7, true);
        has("a.1.1.1", deep, 8, true);
        has("a.1.1.0", deep, 8, false);
        exists("a.1.1.2", deep, false);
        has("a.2.b", deep, 9, true);
        misses("a.2.c", deep, true);
        misses("a.0.b", deep, true);
        has("a.1", deep, Doc.row(6, Doc.row(7, 8)), true);
        Doc full = Doc.row();
        for (int i = 0; i < 150; i++) {
            full.item(i);
        }
        for (int i : new int[] {0, 9, 10, 99, 100, 149}) {
            has("a." + i, Doc.of("a", full), i, true);
            has("a." + i, Doc.of("a", full), i + 1, false);
        }
        exists("a.150", Doc.of("a", full), false);
    }

    private static void itemsThatAreDocuments() {
        Doc items = Doc.of("a", Doc.row(Doc.of("b", 1), 5, Doc.of("b", Doc.row(2, 3)), Doc.row(Doc.of("b", 6)),
            Doc.of("0", 4), Doc.of("b", 7)));
        for (int leaf : new int[] {1, 2, 3, 7}) {
            has("a.b", items, leaf, true);
        }
        has("a.b", items, Doc.row(2, 3), true);
        // Rows among the items are not gone into, and the item without b is one leaf MISSING.
        has("a.b", items, 6, false);
        misses("a.b", items, true);
        misses("a.b", Doc.of("a", Doc.row(Doc.of("b", 1), Doc.of("b", 2))), false);
        misses("a.b", Doc.of("a", Doc.row(Doc.of("b", 1), 5)), false);
        misses("a.b", Doc.of("a", Doc.row(Doc.of("b", 1), Doc.of())), true);
        misses("a.b", Doc.of("a", Doc.row(Doc.of(), Doc.of("b", 1))), true);
        // The number is taken, and the documents too.
        has("a.0", items, Doc.of("b", 1), true);
        has("a.0", items, 4, true);
        has("a.0", items, 5, false);
        misses("a.0", items, true);
        has("a.1", items, 5, true);
        misses("a.1", Doc.of("a", Doc.row(4, 5)), false);
        misses("a.1", Doc.of("a", Doc.row(Doc.of(), 5)), true);
        has("a.7", items, 7, false);
        // The others go on at what the step took there.
        has("a.b.0", items, 2, true);
        has("a.b.1", items, 3, true);
        has("a.b.0", items, 3, false);
        has("a.b.0", items, 1, false);
        has("a.2.b", items, 3, true);
        has("a.0.b", items, 3, false);
        has("a.3.b", items, 6, true);
        has("a.3.0.b", items, 6, true);
        exists("a.1.x", items, false);
        // Item after item, and rows of documents in documents of rows.
        Doc two = Doc.of("a", Doc.row(Doc.of("b", Doc.row(Doc.of("c", 1), Doc.of("c", 2))),
            Doc.of("b", Doc.row(Doc.of("c", 3), Doc.of("d", 4)))));
        for (int leaf = 1; leaf <= 4; leaf++) {
            has("a.b.c", two, leaf, leaf < 4);
            has("a.0.b.c", two, leaf, leaf < 3);
            has("a.b.1.c", two, leaf, leaf == 2);
            has("a.1.b.0.c", two, leaf, leaf == 3);
        }
        misses("a.b.c", two, true);
        // 0 is asked of the documents too, and they have none.
        misses("a.0.b.c", two, true);
        // The first alone, and the last alone, of many.
        Doc first = Doc.row(Doc.of("b", 1));
        Doc last = Doc.row();
        for (int i = 0; i < 100; i++) {
            first.item(i);
            last.item(i);
        }
        last.item(Doc.of("b", 1));
        has("a.b", Doc.of("a", first), 1, true);
        has("a.b", Doc.of("a", last), 1, true);
    }

    private static void noLeaf() {
        Doc[] rows = {Doc.row(), Doc.row(1), Doc.row(1, "b", true), Doc.row(Doc.row()), Doc.row(Doc.row(Doc.of("b", 1)))};
        for (Doc row : rows) {
            Doc document = Doc.of("a", row);
            exists("a.b", document, false);
            misses("a.b", document, true);
            Check.holds(Doc.of("a.b", Doc.of("$ne", 1)), document, true);
            Check.holds(Doc.of("a.b", Doc.of("$size", 0)), document, false);
            Check.holds(Doc.of("a.b", Doc.of("$elem", Doc.of())), document, false);
            Check.holds(Doc.of("a.b", Doc.of("$gte", 0)), document, false);
            Check.holds(Doc.of("a.b", Doc.of("$not", Doc.of("$exists", true))), document, true);
            exists("a.9", document, false);
            exists("a.b.c.d.e.f.g.h", document, false);
        }
        // One leaf elsewhere is enough for there to be leaves.
        Doc one = Doc.of("a", Doc.row(Doc.of("b", Doc.row(1)), Doc.of("b", Doc.row(Doc.of("c", 1)))));
        misses("a.b.c", one, false);
        has("a.b.c", one, 1, true);
    }

    private static void atAnyOtherValue() {
        Object[] values = {1, 0, 7L, true, false, "", "b", "0"};
        for (Object value : values) {
            for (String step : new String[] {"b", "0", "1", "length", "b.c.d"}) {
                Doc document = Doc.of("a", value);
                exists("a." + step, document, false);
                misses("a." + step, document, true);
                Doc item = Doc.of("a", Doc.row(value, Doc.of(step.substring(0, 1), 1)));
                misses("a.0." + step, item, true);
            }
        }
        exists("a.b", Doc.of("a", null), false);
        misses("a.b", Doc.of("a", null), true);
        misses("a.0", Doc.of("a", null), true);
        // It is a leaf, where a row would have none.
        Doc both = Doc.of("a", Doc.row(Doc.of("b", 1), Doc.of("b", Doc.of("c", 1))));
        misses("a.b.c", both, true);
        Doc without = Doc.of("a", Doc.row(Doc.of("b", Doc.row(1)), Doc.of("b", Doc.of("c", 1))));
        misses("a.b.c", without, false);
    }

    private static void metMoreThanOnce() {
        Doc zeros = Doc.of("0", Doc.row(Doc.of("0", Doc.row(Doc.of("0", 7)))));
        has("0.0", zeros, 7, false);
        has("0.0", zeros, Doc.of("0", 7), true);
        for (String path : new String[] {"0.0.0", "0.0.0.0", "0.0.0.0.0"}) {
            has(path, zeros, 7, true);
            has(path, zeros, 8, false);
        }
        exists("0.0.0.0.0.0", zeros, false);
        // 7 is met by both ways of 0.0.0 and MISSING behind it: the answers stay the same.
        Check.holds(Doc.of("0.0.0", Doc.of("$ne", 7)), zeros, false);
        Check.holds(Doc.of("0.0.0", Doc.of("$ne", 8)), zeros, true);
        Check.holds(Doc.of("0.0", Doc.of("$elem", Doc.of("0", 7))), zeros, true);
        Check.holds(Doc.of("0.0", Doc.of("$size", 1)), zeros, true);
        Doc documents = Doc.of("0", 1);
        for (int i = 0; i < 7; i++) {
            documents = Doc.of("0", Doc.row(3, documents));
        }
        has("0.0.0.0.0.0.0.0", documents, 1, true);
        has("0.0.0.0.0.0.0", documents, 1, false);
        has("0.0.0.0.0.0.0.0", documents, 2, false);
    }

    private static void withItems() {
        Doc row = Doc.row(1, "x", Doc.row(2), Doc.row(), null);
        Doc document = Doc.of("a", row);
        has("a", document, row, true);
        has("a", document, 1, true);
        has("a", document, "x", true);
        has("a", document, Doc.row(2), true);
        has("a", document, Doc.row(), true);
        has("a", document, null, true);
        has("a", document, 2, false);
        has("a", document, Doc.row(1), false);
        has("a", Doc.of("a", Doc.row()), Doc.row(), true);
        has("a", Doc.of("a", Doc.row()), null, false);
        has("a", Doc.of("a", Doc.row(1, 2, 3)), 1, true);
        has("a", Doc.of("a", Doc.row(1, 2, 3)), 3, true);
        has("a", Doc.of("a", Doc.row(1, 2, 3)), 4, false);
        // The elements of a document are no items.
        has("a", Doc.of("a", Doc.of("0", 1)), 1, false);
        // Each leaf has its items.
        Doc two = Doc.of("a", Doc.row(Doc.of("b", Doc.row(1)), Doc.of("b", 2), Doc.of("b", Doc.row(3, 4))));
        for (int leaf = 1; leaf <= 4; leaf++) {
            has("a.b", two, leaf, true);
        }
        has("a.b", two, 5, false);
        has("a.b", two, Doc.row(3, 4), true);
    }
}
