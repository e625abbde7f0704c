import java.util.Arrays;

/** Promise 2: feed. */
public final class FeedTest {
    public static void main(String[] args) {
        countsUpTo2000();
        highestByteFirst();
        negativeNumbers();
        Check.end();
    }

    private static void countsUpTo2000() {
        FilterReader x = new FilterReader();
        for (int i = 1; i <= 100; i++) {
            Check.due("feed number " + i, x.feed(i, -i, 0, 1, 2), 20 * i);
        }
        Check.due("feed number 101", x.feed(1, 2, 3, 4, 5), -1);
        Check.due("feed number 102", x.feed(1, 2, 3, 4, 5), -1);
        Check.due("read(0, 2001) of 2000", x.read(0, 2001), -2);
        Check.due("read(0, 2000) of what is none", x.read(0, 2000), -1);
        Check.due("feed behind a read", x.feed(1, 2, 3, 4, 5), 20);
    }

    private static void highestByteFirst() {
        FilterReader x = new FilterReader();
        // {a: text "abcde"}, 18 bytes, and two behind them.
        x.feed(0x12000000, 0x02610006, 0x00000061, 0x62636465, 0x00007f7f);
        Check.due("read of a text", x.read(0, 18), 0);
        Check.filter(x, 0, Doc.of("a", "abcde"));
        Check.due("holds of the text", x.holds(0, 0), 1);
    }

    private static void negativeNumbers() {
        FilterReader x = new FilterReader();
        // {a: 32 bits, b: 64 bits}
        byte[] bytes = Doc.of("a", -2, "b", -1234567890123L).bytes();
        Check.due("read of numbers below 0", Check.read(x, 3, bytes), 0);
        Check.filter(x, 0, Doc.of("a", -2L, "b", -1234567890123L));
        Check.due("holds of numbers below 0", x.holds(0, 3), 1);
        byte[] full = Doc.of("a", text(1987)).bytes();
        Check.due("length of a full document", full.length, 2000);
        Check.due("read of a full document", Check.read(x, 2, full), 0);
        Check.filter(x, 0, Doc.of("a", Doc.of("$gt", text(1900))));
        Check.due("which of a full document", x.which(0), 4);
    }

    private static String text(int length) {
        char[] characters = new char[length];
        Arrays.fill(characters, 'x');
        return new String(characters);
    }
}
