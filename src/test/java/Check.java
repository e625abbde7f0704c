import java.util.Arrays;
import java.util.function.ToIntFunction;

/** What the tests share: answers that are due, and bytes put on an object's tape. */
final class Check {
    /** Numbers that are no slot and no filter, and no what of many(). */
    static final int[] NO_NUMBERS = {-1, 4, 5, -4, 256, -256, Integer.MIN_VALUE, Integer.MIN_VALUE + 1,
        Integer.MAX_VALUE};
    static final Doc OLD = Doc.of("old", 1);

    private static String heading = "";
    private static boolean headingShown = true;
    private static int asked = 0;
    private static int wrong = 0;

    private Check() {
    }

    /** Names what the answers that follow are asked for: it is printed when one of them is wrong. */
    static void under(String what) {
        heading = what;
        headingShown = false;
    }

    static int asked() {
        return asked;
    }

    static void due(String call, long got, long want) {
        asked++;
        if (got != want) {
            wrong++;
            if (!headingShown) {
                System.out.println(heading);
                headingShown = true;
            }
            System.out.println("  " + call + " answered " + got + ", due is " + want);
        }
    }

    static void due(String what, boolean got) {
        due(what, got ? 1 : 0, 1);
    }

    static void end() {
        System.out.println(asked + " answers, " + wrong + " not as due");
        if (wrong != 0 || asked == 0) {
            System.exit(1);
        }
    }

    // ---- calls

    /** Feeds the bytes, with zeros behind them up to the next twenty. */
    static void feed(FilterReader x, byte[] bytes) {
        byte[] all = Arrays.copyOf(bytes, (bytes.length + 19) / 20 * 20);
        for (int i = 0; i < all.length; i += 20) {
            x.feed(word(all, i), word(all, i + 4), word(all, i + 8), word(all, i + 12), word(all, i + 16));
        }
    }

    private static int word(byte[] bytes, int at) {
        return bytes[at] << 24 | (bytes[at + 1] & 255) << 16 | (bytes[at + 2] & 255) << 8 | bytes[at + 3] & 255;
    }

    static int read(FilterReader x, int slot, byte[] bytes) {
        feed(x, bytes);
        return x.read(slot, bytes.length);
    }

    static int read(FilterReader x, int slot, Doc document) {
        return read(x, slot, document.bytes());
    }

    static int filter(FilterReader x, int f, byte[] bytes) {
        feed(x, bytes);
        return x.filter(f, bytes.length);
    }

    static int filter(FilterReader x, int f, Doc document) {
        return filter(x, f, document.bytes());
    }

    // ---- bytes of a document

    /** The bytes of a document with these bytes as its elements. */
    static byte[] around(int... elements) {
        byte[] bytes = Arrays.copyOf(Doc.number(elements.length + 5, 4), elements.length + 5);
        for (int i = 0; i < elements.length; i++) {
            bytes[4 + i] = (byte) elements[i];
        }
        return bytes;
    }

    /** That the bytes are a document (0) or none (-1), for read() and for filter(). */
    static void reads(String what, byte[] bytes, int want) {
        FilterReader x = new FilterReader();
        read(x, 2, OLD);
        filter(x, 0, OLD);
        due("read of " + what, read(x, 2, bytes), want);
        due("the slot's old document behind " + what, x.holds(0, 2), want == 0 ? 0 : 1);
        due("filter of " + what, filter(x, 1, bytes) == -1 ? -1 : 0, want);
    }

    // ---- filters and what they hold for

    static void holds(Doc filter, Doc document, boolean want) {
        FilterReader x = new FilterReader();
        due("read of " + document, read(x, 1, document), 0);
        due("filter of " + filter, filter(x, 2, filter), 0);
        due(filter + " for " + document, x.holds(2, 1), want ? 1 : 0);
    }

    /** Whether a condition holds on a of {a: value}. */
    static void on(String name, Object v, Object value, boolean want) {
        holds(Doc.of("a", Doc.of(name, v)), Doc.of("a", value), want);
    }

    /** Whether a condition holds where there is no a. */
    static void onMissing(String name, Object v, boolean want) {
        holds(Doc.of("a", Doc.of(name, v)), Doc.of("b", 1), want);
    }

    /** That a filter has this fault at this place; 0 and -1: that it has none. */
    static void faults(Doc filter, int fault, int place) {
        FilterReader x = new FilterReader();
        filter(x, 1, OLD);
        due("filter of " + filter, filter(x, 1, filter), fault);
        due("place() of " + filter, x.place(), place);
        if (fault != 0) {
            boolean stays = x.many(1, 0) == 1 && x.many(1, 1) == 2 && x.many(1, 3) == 1 && x.which(1) == 0;
            due("the old filter stays behind " + filter, stays);
        }
    }

    static void right(Doc filter) {
        faults(filter, 0, -1);
    }

    // ---- calls that do nothing

    /**
     * An object with something everywhere: filter f holds for slot f alone, no two filters have
     * the same counts, and the latest filter() had a fault.
     */
    static FilterReader filled() {
        FilterReader x = new FilterReader();
        for (int slot = 0; slot < 4; slot++) {
            read(x, slot, Doc.of("a", slot));
        }
        filter(x, 0, Doc.of("a", 0));
        filter(x, 1, Doc.of("a", Doc.of("$gt", 0, "$lt", 2)));
        filter(x, 2, Doc.of("$and", Doc.row(Doc.of("a", 2), Doc.of("b.c", null))));
        filter(x, 3, Doc.of("b", null, "a", Doc.of("$gt", 2), "$nor", Doc.row(Doc.of("c.d.e", 1))));
        due("a filter with a fault", filter(x, 0, Doc.of("a", 1, "b", 1, "$x", 1)), 1);
        return x;
    }

    /** All that an object tells by calls that change nothing. */
    static String told(FilterReader x) {
        StringBuilder told = new StringBuilder("place " + x.place());
        for (int f = 0; f < 4; f++) {
            told.append("; filter ").append(f).append(": which ").append(x.which(f));
            for (int i = 0; i < 4; i++) {
                told.append(", ").append(x.many(f, i)).append(' ').append(x.holds(f, i)).append(' ').append(x.fails(f, i));
            }
        }
        return told.toString();
    }

    static void sameTold(String what, String before, FilterReader x) {
        String behind = told(x);
        due(what + ": " + before + " -> " + behind, before.equals(behind));
    }

    /** That a call gives this answer and changes neither slots, filters, the place nor the tape. */
    static void doesNothing(String call, ToIntFunction<FilterReader> made, int want) {
        FilterReader x = filled();
        Doc waiting = Doc.of("waits", "on the tape");
        feed(x, waiting.bytes());
        String before = told(x);
        due(call, made.applyAsInt(x), want);
        sameTold("told behind " + call, before, x);
        due("feed behind " + call, x.feed(0, 0, 0, 0, 0), 60);
        due("read behind " + call, x.read(0, waiting.bytes().length), 0);
        filter(x, 0, waiting);
        due("the bytes of the tape behind " + call, x.which(0), 1);
    }
}
