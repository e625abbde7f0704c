import java.util.Arrays;

/** Promise 3: read, and what the bytes of a document are. */
public final class ReadTest {
    private static final Doc OLD = Doc.of("old", 1);

    public static void main(String[] args) {
        slotsAndCounts();
        sizes();
        kinds();
        names();
        rows();
        texts();
        utf8();
        depth();
        Check.end();
    }

    private static void slotsAndCounts() {
        FilterReader x = new FilterReader();
        byte[] bytes = OLD.bytes();
        Check.feed(x, bytes);
        int[] noSlots = {-1, 4, 5, Integer.MIN_VALUE, Integer.MAX_VALUE};
        for (int slot : noSlots) {
            Check.due("read(" + slot + ", ..)", x.read(slot, bytes.length), -2);
        }
        int[] noCounts = {-1, 21, Integer.MIN_VALUE, Integer.MAX_VALUE};
        for (int n : noCounts) {
            Check.due("read(0, " + n + ")", x.read(0, n), -2);
        }
        Check.due("feed behind reads of nothing", x.feed(0, 0, 0, 0, 0), 40);
        Check.due("read(3, ..)", x.read(3, bytes.length), 0);
        Check.due("feed behind a read", x.feed(0, 0, 0, 0, 0), 20);
        Check.due("read of no bytes", x.read(3, 0), -1);
        Check.due("feed behind a read that was -1", x.feed(0, 0, 0, 0, 0), 20);
        x.read(3, 0);
        Check.filter(x, 1, OLD);
        Check.due("which: the slot stays", x.which(1), 8);
        Check.read(x, 3, Doc.of());
        Check.due("which: the slot has another document", x.which(1), 0);
    }

    private static void expect(String what, byte[] bytes, int want) {
        FilterReader x = new FilterReader();
        Check.read(x, 2, OLD);
        Check.filter(x, 0, OLD);
        Check.due("read of " + what, Check.read(x, 2, bytes), want);
        Check.due("slot behind " + what, x.holds(0, 2), want == 0 ? 0 : 1);
    }

    /** Bytes of a document with these elements. */
    private static byte[] around(int... elements) {
        byte[] bytes = new byte[elements.length + 5];
        bytes[0] = (byte) bytes.length;
        for (int i = 0; i < elements.length; i++) {
            bytes[4 + i] = (byte) elements[i];
        }
        return bytes;
    }

    private static void sizes() {
        expect("an empty document", new byte[] {5, 0, 0, 0, 0}, 0);
        expect("too few bytes", new byte[] {4, 0, 0, 0}, -1);
        expect("one byte", new byte[] {1}, -1);
        expect("a size that is too small", new byte[] {4, 0, 0, 0, 0}, -1);
        expect("a size that is too great", new byte[] {6, 0, 0, 0, 0}, -1);
        expect("a byte behind the last", new byte[] {5, 0, 0, 0, 0, 0}, -1);
        expect("a last byte that is not 0", new byte[] {5, 0, 0, 0, 1}, -1);
        expect("a 0 before the last", new byte[] {6, 0, 0, 0, 0, 0}, -1);
        expect("a size below 0", new byte[] {5, 0, 0, (byte) 128, 0}, -1);
        expect("a size with its highest byte first", new byte[] {0, 0, 0, 5, 0}, -1);
        expect("a size of many bits", new byte[] {5, 1, 0, 0, 0}, -1);
        expect("a document within", around(3, 'a', 0, 5, 0, 0, 0, 0), 0);
        expect("one within too short", around(3, 'a', 0, 4, 0, 0, 0), -1);
        expect("one within of size 4", around(3, 'a', 0, 4, 0, 0, 0, 0), -1);
        expect("one within too long", around(3, 'a', 0, 6, 0, 0, 0, 0), -1);
        expect("one within of size below 0", around(3, 'a', 0, 5, 0, 0, 255, 0), -1);
        expect("one within whose last is not 0", around(3, 'a', 0, 5, 0, 0, 0, 1), -1);
        expect("one within whose element goes over its end", around(3, 'a', 0, 7, 0, 0, 0, 10, 'b', 0, 0), -1);
        expect("one within with an element", around(3, 'a', 0, 8, 0, 0, 0, 10, 'b', 0, 0), 0);
        expect("an element behind one within", around(3, 'a', 0, 8, 0, 0, 0, 10, 'b', 0, 0, 10, 'b', 0), 0);
        expect("a name without its end", around(10, 'a'), -1);
        expect("a kind without a name", around(10), -1);
    }

    private static void kinds() {
        expect("NOTHING", around(10, 'a', 0), 0);
        expect("TRUTH 0", around(8, 'a', 0, 0), 0);
        expect("TRUTH 1", around(8, 'a', 0, 1), 0);
        expect("TRUTH 2", around(8, 'a', 0, 2), -1);
        expect("TRUTH 255", around(8, 'a', 0, 255), -1);
        expect("TRUTH without a byte", around(8, 'a', 0), -1);
        expect("WHOLE of 4", around(16, 'a', 0, 1, 2, 3, 4), 0);
        expect("WHOLE of 3", around(16, 'a', 0, 1, 2, 3), -1);
        expect("WHOLE of 3 and a 0", around(16, 'a', 0, 1, 2, 0), -1);
        expect("WHOLE of 8", around(18, 'a', 0, 1, 2, 3, 4, 5, 6, 7, 255), 0);
        expect("WHOLE of 7", around(18, 'a', 0, 1, 2, 3, 4, 5, 6, 0), -1);
        for (int kind = 0; kind < 256; kind++) {
            boolean known = kind == 10;
            expect("kind " + kind + " without bytes", around(kind, 'a', 0), known ? 0 : -1);
        }
        for (int kind = 0; kind < 256; kind++) {
            boolean known = kind == 3 || kind == 4;
            expect("kind " + kind + " with 5 bytes", around(kind, 'a', 0, 5, 0, 0, 0, 0), known ? 0 : -1);
        }
    }

    private static void names() {
        expect("an empty name", around(10, 0), 0);
        expect("two empty names", around(10, 0, 10, 0), -1);
        expect("two names", around(10, 'a', 0, 10, 'b', 0), 0);
        expect("one name twice", around(10, 'a', 0, 10, 'a', 0), -1);
        expect("one name twice, not next to it", around(10, 'a', 0, 10, 'b', 0, 8, 'a', 0, 1), -1);
        expect("a name that begins another", around(10, 'a', 0, 10, 'a', 'a', 0), 0);
        expect("one name in two documents", around(3, 'a', 0, 8, 0, 0, 0, 10, 'a', 0, 0), 0);
        expect("one name twice within", around(3, 'a', 0, 11, 0, 0, 0, 10, 'a', 0, 10, 'a', 0, 0), -1);
        expect("a name of wrong UTF-8", around(10, 'a', 0xc3, 0), -1);
        expect("a name of right UTF-8", around(10, 'a', 0xc3, 0xa4, 0), 0);
        expect("a name with a $", around(10, '$', 'a', 'n', 'd', 0), 0);
    }

    private static byte[] rowNamed(String... names) {
        Doc row = Doc.row();
        for (String name : names) {
            row.with(name, null);
        }
        return Doc.of("r", row).bytes();
    }

    private static void rows() {
        expect("a row of 0", rowNamed(), 0);
        expect("a row of 1", rowNamed("0"), 0);
        expect("a row of 3", rowNamed("0", "1", "2"), 0);
        expect("a row from 1", rowNamed("1"), -1);
        expect("a row in another order", rowNamed("1", "0"), -1);
        expect("a row with a gap", rowNamed("0", "2"), -1);
        expect("a row with a name twice", rowNamed("0", "0"), -1);
        expect("a row with an empty name", rowNamed(""), -1);
        expect("a row with 00", rowNamed("00"), -1);
        expect("a row with 01", rowNamed("0", "01"), -1);
        expect("a row with 1x", rowNamed("0", "1x"), -1);
        expect("a row with x1", rowNamed("0", "x1"), -1);
        expect("a row with -0", rowNamed("-0"), -1);
        Doc eleven = Doc.row();
        for (int i = 0; i < 301; i++) {
            eleven.item(null);
            if (i > 8 && i < 12 || i > 98 && i < 102 || i == 300) {
                expect("a row of " + (i + 1), Doc.of("r", eleven).bytes(), 0);
            }
        }
        String[] ten = {"0", "1", "2", "3", "4", "5", "6", "7", "8", "9", "0"};
        expect("a row of 11 whose last is 0", rowNamed(ten), -1);
        ten[10] = "1";
        expect("a row of 11 whose last is 1", rowNamed(ten), -1);
        ten[10] = "010";
        expect("a row of 11 whose last is 010", rowNamed(ten), -1);
        ten[10] = "110";
        expect("a row of 11 whose last is 110", rowNamed(ten), -1);
        ten[10] = "10";
        expect("a row of 11", rowNamed(ten), 0);
        expect("a whole document with names of a row", Doc.of("1", 1, "0", 2).bytes(), 0);
    }

    private static void texts() {
        expect("an empty text", around(2, 'a', 0, 1, 0, 0, 0, 0), 0);
        expect("a text of size 0", around(2, 'a', 0, 0, 0, 0, 0), -1);
        expect("a text of size 0 and a 0", around(2, 'a', 0, 0, 0, 0, 0, 0), -1);
        expect("a text of size below 0", around(2, 'a', 0, 1, 0, 0, 128, 0), -1);
        expect("a text of the greatest size", around(2, 'a', 0, 255, 255, 255, 127, 0), -1);
        expect("a text without its size", around(2, 'a', 0, 1, 0, 0), -1);
        expect("a text with a 0", around(2, 'a', 0, 3, 0, 0, 0, 0, 'x', 0), 0);
        expect("a text whose last is not 0", around(2, 'a', 0, 3, 0, 0, 0, 0, 'x', 1), -1);
        expect("a text of one byte more", around(2, 'a', 0, 3, 0, 0, 0, 'x', 'y'), -1);
        expect("a text up to the last 0", around(2, 'a', 0, 2, 0, 0, 0, 'x'), -1);
        expect("a text whose last begins an element", around(2, 'a', 0, 1, 0, 0, 0, 10, 'b', 0), -1);
        expect("a text of wrong UTF-8 that is an element", around(2, 'a', 0, 4, 0, 0, 0, 10, 0xc3, 0, 0), -1);
        expect("a text of wrong UTF-8", around(2, 'a', 0, 2, 0, 0, 0, 0x80, 0), -1);
        expect("a text cut in a character", around(2, 'a', 0, 2, 0, 0, 0, 0xc3, 0), -1);
    }

    private static void text(int want, int... bytes) {
        int[] elements = Arrays.copyOf(new int[] {2, 'a', 0, bytes.length + 1, 0, 0, 0}, bytes.length + 8);
        System.arraycopy(bytes, 0, elements, 7, bytes.length);
        expect("text " + Arrays.toString(bytes), around(elements), want);
    }

    private static void utf8() {
        text(0, 0x7f);
        text(-1, 0x80);
        text(-1, 0xbf);
        text(-1, 0xc0, 0x80);
        text(-1, 0xc1, 0xbf);
        text(0, 0xc2, 0x80);
        text(0, 0xdf, 0xbf);
        text(-1, 0xc2);
        text(-1, 0xc2, 0x7f);
        text(-1, 0xc2, 0xc0);
        text(-1, 0xc2, 0x80, 0x80);
        text(-1, 0xe0, 0x9f, 0xbf);
        text(0, 0xe0, 0xa0, 0x80);
        text(0, 0xed, 0x9f, 0xbf);
        text(-1, 0xed, 0xa0, 0x80);
        text(-1, 0xed, 0xbf, 0xbf);
        text(0, 0xee, 0x80, 0x80);
        text(0, 0xef, 0xbf, 0xbf);
        text(-1, 0xef, 0xbf);
        text(-1, 0xef, 0xbf, 0x41);
        text(-1, 0xef, 0x41, 0xbf);
        text(-1, 0xf0, 0x8f, 0xbf, 0xbf);
        text(0, 0xf0, 0x90, 0x80, 0x80);
        text(0, 0xf4, 0x8f, 0xbf, 0xbf);
        text(-1, 0xf4, 0x90, 0x80, 0x80);
        text(-1, 0xf5, 0x80, 0x80, 0x80);
        text(-1, 0xf7, 0xbf, 0xbf, 0xbf);
        text(-1, 0xf8, 0x88, 0x80, 0x80, 0x80);
        text(-1, 0xff);
        text(-1, 0xf0, 0x90, 0x80);
        text(0, 'a', 0xc3, 0xa4, 0, 0xe2, 0x82, 0xac, 0xf0, 0x9f, 0x98, 0x80, 'z');
    }

    private static void depth() {
        Object value = Doc.of();
        for (int deep = 2; deep <= 18; deep++) {
            Doc outer = Doc.of("a", value);
            expect("documents " + deep + " deep", outer.bytes(), deep <= 16 ? 0 : -1);
            value = outer;
        }
        value = Doc.row();
        for (int deep = 2; deep <= 18; deep++) {
            expect("rows " + deep + " deep", Doc.of("a", value).bytes(), deep <= 16 ? 0 : -1);
            value = Doc.row(value);
        }
    }
}
