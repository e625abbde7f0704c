import java.util.Arrays;

/** What the tests share: answers that are due, and bytes put on an object's tape. */
final class Check {
    private static int asked = 0;
    private static int wrong = 0;

    private Check() {
    }

    static void due(String call, long got, long want) {
        asked++;
        if (got != want) {
            wrong++;
            System.out.println(call + " answered " + got + ", due is " + want);
        }
    }

    static void end() {
        System.out.println(asked + " answers, " + wrong + " not as due");
        if (wrong != 0 || asked == 0) {
            System.exit(1);
        }
    }

    /** Feeds the bytes, with zeros behind them up to the next twenty. */
    static void feed(FilterReader x, byte[] bytes) {
        byte[] all = Arrays.copyOf(bytes, (bytes.length + 19) / 20 * 20);
        for (int i = 0; i < all.length; i += 20) {
            x.feed(word(all, i), word(all, i + 4), word(all, i + 8), word(all, i + 12), word(all, i + 16));
        }
    }

    static int read(FilterReader x, int slot, byte[] bytes) {
        feed(x, bytes);
        return x.read(slot, bytes.length);
    }

    static int filter(FilterReader x, int f, byte[] bytes) {
        feed(x, bytes);
        return x.filter(f, bytes.length);
    }

    static int read(FilterReader x, int slot, Doc document) {
        return read(x, slot, document.bytes());
    }

    static int filter(FilterReader x, int f, Doc document) {
        return filter(x, f, document.bytes());
    }

    /** Whether a filter holds for a document, on a fresh object. */
    static int holds(Doc filter, Doc document) {
        FilterReader x = new FilterReader();
        if (read(x, 1, document) != 0 || filter(x, 2, filter) != 0) {
            return -9;
        }
        return x.holds(2, 1);
    }

    /** 1000 times the place and the fault of a filter, on a fresh object. */
    static int fault(Doc filter) {
        FilterReader x = new FilterReader();
        int fault = filter(x, 0, filter);
        return 1000 * x.place() + fault;
    }

    private static int word(byte[] bytes, int at) {
        return bytes[at] << 24 | (bytes[at + 1] & 255) << 16 | (bytes[at + 2] & 255) << 8 | bytes[at + 3] & 255;
    }
}
