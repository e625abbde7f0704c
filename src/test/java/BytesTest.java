import java.nio.ByteBuffer;
import java.nio.charset.CharacterCodingException;
import java.nio.charset.StandardCharsets;
import java.util.Arrays;
import java.util.List;

/** The term BYTES OF A DOCUMENT, sentence by sentence. */
public final class BytesTest {
    private static final String TERM = "Terms: BYTES OF A DOCUMENT";
    private static final int[] WRONG_SIZES = {0, 1, 2, 3, 4, 6, 7, 9, 5 + 256, 5 + 65536, 5 + (1 << 24), -1, -5,
        Integer.MIN_VALUE, Integer.MIN_VALUE + 5, Integer.MAX_VALUE};

    public static void main(String[] args) {
        Sentence.testAll(sentences());
    }

    static List<Sentence> sentences() {
        return List.of(
            new Sentence(TERM, "BYTES OF A DOCUMENT (numbers with their lowest byte first)", BytesTest::lowestByteFirst),
            new Sentence(TERM, "its SIZE (4 bytes; it counts all of it, itself and the last 0), its ELEMENTS, a byte 0.",
                BytesTest::sizes),
            new Sentence(TERM, "An ELEMENT: its KIND (a byte), its NAME (any bytes but 0, right UTF-8), a byte 0, "
                + "and its VALUE by the kind", BytesTest::elements),
            new Sentence(TERM, "16 a WHOLE number of 32 bits (4 bytes)", BytesTest::wholeOf32),
            new Sentence(TERM, "18 one of 64 bits (8 bytes)", BytesTest::wholeOf64),
            new Sentence(TERM, "both with a sign", BytesTest::signs),
            new Sentence(TERM, "8 a TRUTH (a byte 0 or 1)", BytesTest::truths),
            new Sentence(TERM, "10 NOTHING (no bytes)", BytesTest::nothing),
            new Sentence(TERM, "2 a TEXT: n (4 bytes, at least 1), n - 1 bytes of right UTF-8 (0 may be among them), "
                + "a byte 0", BytesTest::texts),
            new Sentence(TERM, "3 a DOCUMENT", BytesTest::documentsWithin),
            new Sentence(TERM, "4 a ROW: as a document whose names are 0, 1, 2, .. in decimal digits, in this order; "
                + "its values are ITEMS.", BytesTest::rows),
            new Sentence(TERM, "Right UTF-8: characters up to 1114111 but 55296 to 57343, each in its shortest form.",
                BytesTest::rightUtf8),
            new Sentence(TERM, "The names of one document are different.", BytesTest::differentNames),
            new Sentence(TERM, "A document has at most 2,000 bytes", BytesTest::atMost2000),
            new Sentence(TERM, "documents and rows lie at most 16 deep, the outermost one being 1 deep.",
                BytesTest::atMost16Deep));
    }

    private static void reads(String what, int want, int... elements) {
        Check.reads(what, Check.around(elements), want);
    }

    /** Whether {a: {condition: v}} holds for {a: value}, both with kind and value as bytes. */
    private static int asks(String condition, int[] v, int[] value) {
        int[] name = condition.chars().toArray();
        byte[] within = Check.around(element(name, v));
        int[] withinBytes = new int[within.length + 1];
        withinBytes[0] = 3;
        for (int i = 0; i < within.length; i++) {
            withinBytes[i + 1] = within[i];
        }
        FilterReader x = new FilterReader();
        Check.due("read", Check.read(x, 0, Check.around(element(new int[] {'a'}, value))), 0);
        Check.due("filter", Check.filter(x, 0, Check.around(element(new int[] {'a'}, withinBytes))), 0);
        return x.holds(0, 0);
    }

    /** An element of a kind with the bytes of its value behind it. */
    private static int[] element(int[] name, int[] kindAndValue) {
        int[] made = new int[name.length + 1 + kindAndValue.length];
        made[0] = kindAndValue[0];
        System.arraycopy(name, 0, made, 1, name.length);
        System.arraycopy(kindAndValue, 1, made, name.length + 2, kindAndValue.length - 1);
        return made;
    }

    private static void lowestByteFirst() {
        int[] row = {4, 11, 0, 0, 0, 10, '0', 0, 10, '1', 0, 0};
        Check.due("$size 2 of 32 bits", asks("$size", new int[] {16, 2, 0, 0, 0}, row), 1);
        Check.due("$size 2 of 64 bits", asks("$size", new int[] {18, 2, 0, 0, 0, 0, 0, 0, 0}, row), 1);
        Check.due("$size 2 with its highest byte first", asks("$size", new int[] {16, 0, 0, 0, 2}, row), 0);
        for (int size : new int[] {4, 8}) {
            for (int i = 0; i + 1 < size; i++) {
                int[] low = new int[size + 1];
                int[] high = new int[size + 1];
                low[0] = size == 4 ? 16 : 18;
                high[0] = low[0];
                low[i + 1] = 2;
                high[i + 2] = 1;
                String what = "byte " + i + " of " + size + " against the next";
                Check.due(what + ", $gt", asks("$gt", low, high), 1);
                Check.due(what + ", $lt", asks("$lt", low, high), 0);
            }
        }
        Check.reads("a document of 255 bytes", Doc.of("a", text(242)).bytes(), 0);
        Check.reads("a document of 256 bytes", Doc.of("a", text(243)).bytes(), 0);
        Check.reads("a document of 257 bytes", Doc.of("a", text(244)).bytes(), 0);
        byte[] turned = Doc.of("a", text(244)).bytes();
        turned[0] = 0;
        turned[1] = 0;
        turned[2] = 1;
        turned[3] = 1;
        Check.reads("257 with its highest byte first", turned, -1);
        byte[] turnedText = Doc.of("a", text(257)).bytes();
        Check.due("the size of a text", turnedText[7] * 256 + turnedText[8], 2 * 256 + 1);
        turnedText[7] = 0;
        turnedText[8] = 0;
        turnedText[9] = 1;
        turnedText[10] = 2;
        Check.reads("a text's size with its highest byte first", turnedText, -1);
    }

    private static String text(int length) {
        char[] characters = new char[length];
        Arrays.fill(characters, 'x');
        return new String(characters);
    }

    private static void sizes() {
        for (int n = 0; n < 5; n++) {
            Check.reads(n + " bytes 0", new byte[n], -1);
            byte[] counted = new byte[n];
            if (n > 0) {
                counted[0] = (byte) n;
            }
            Check.reads(n + " bytes with this size", counted, -1);
        }
        Check.reads("an empty document", new byte[] {5, 0, 0, 0, 0}, 0);
        for (int size : WRONG_SIZES) {
            Check.reads("5 bytes with size " + size, Arrays.copyOf(Doc.number(size, 4), 5), -1);
        }
        byte[] whole = Doc.of("a", 7).bytes();
        for (int n = 0; n <= 20; n++) {
            FilterReader x = new FilterReader();
            Check.feed(x, whole);
            Check.due("read(0, " + n + ") of a document of 12 bytes", x.read(0, n), n == 12 ? 0 : -1);
        }
        for (int change = -12; change < 12; change++) {
            byte[] changed = whole.clone();
            changed[0] += change;
            Check.reads("12 bytes with size " + changed[0], changed, change == 0 ? 0 : -1);
        }
        Check.reads("a last byte 1", new byte[] {5, 0, 0, 0, 1}, -1);
        Check.reads("a last byte 255", new byte[] {5, 0, 0, 0, -1}, -1);
        Check.reads("a last byte 1 behind an element", new byte[] {8, 0, 0, 0, 10, 'a', 0, 1}, -1);
        reads("no element but a 0", -1, 0);
        reads("a 0 behind an element", -1, 10, 'a', 0, 0);
        reads("a 0 before an element", -1, 0, 10, 'a', 0);
        Check.reads("an empty document twice", new byte[] {5, 0, 0, 0, 0, 5, 0, 0, 0, 0}, -1);
    }

    private static void elements() {
        reads("an empty name", 0, 10, 0);
        reads("a name", 0, 10, 'a', 0);
        reads("a kind without a name", -1, 10);
        reads("a name without its 0", -1, 10, 'a');
        for (int kind : new int[] {2, 3, 4, 8, 10, 16, 18}) {
            for (int letters = 0; letters <= 12; letters++) {
                int[] element = new int[letters + 1];
                Arrays.fill(element, 'x');
                element[0] = kind;
                reads("kind " + kind + " and " + letters + " letters without a 0", -1, element);
            }
        }
        reads("a second element without its name", -1, 10, 'a', 0, 10);
        reads("a second name without its 0", -1, 10, 'a', 0, 10, 'b');
        for (int letter = 1; letter < 256; letter++) {
            reads("a name of the byte " + letter, letter < 128 ? 0 : -1, 10, letter, 0);
        }
        reads("a name of two bytes for one character", 0, 10, 0xc3, 0xa4, 0);
        reads("a name that ends in a character", -1, 10, 'a', 0xc3, 0);
        reads("a name of $", 0, 10, '$', 0);
        for (int kind = 0; kind < 256; kind++) {
            boolean withSize = kind == 3 || kind == 4;
            reads("kind " + kind + " with no bytes", kind == 10 ? 0 : -1, kind, 'a', 0);
            reads("kind " + kind + " with 1 byte", kind == 8 ? 0 : -1, kind, 'a', 0, 1);
            reads("kind " + kind + " with 4 bytes", kind == 16 ? 0 : -1, kind, 'a', 0, 5, 0, 0, 0);
            reads("kind " + kind + " with 5 bytes, a size", withSize ? 0 : -1, kind, 'a', 0, 5, 0, 0, 0, 0);
            reads("kind " + kind + " with 5 bytes, a text", kind == 2 ? 0 : -1, kind, 'a', 0, 1, 0, 0, 0, 0);
            reads("kind " + kind + " with 8 bytes", kind == 18 ? 0 : -1, kind, 'a', 0, 1, 2, 3, 4, 5, 6, 7, 8);
        }
        Check.reads("a name as long as it may be", Doc.of(text(1993), null).bytes(), 0);
    }

    private static void wholeOf32() {
        reads("3 bytes", -1, 16, 'a', 0, 1, 2, 3);
        reads("3 bytes, the last 0", -1, 16, 'a', 0, 1, 2, 0);
        reads("4 bytes", 0, 16, 'a', 0, 1, 2, 3, 4);
        reads("5 bytes", -1, 16, 'a', 0, 1, 2, 3, 4, 5);
        reads("no bytes", -1, 16, 'a', 0);
        reads("4 bytes and an element", 0, 16, 'a', 0, 1, 2, 3, 4, 10, 'b', 0);
        Check.on("$eq", 2147483647L, Integer.MAX_VALUE, true);
        Check.on("$eq", 2147483648L, Integer.MIN_VALUE, false);
    }

    private static void wholeOf64() {
        reads("7 bytes", -1, 18, 'a', 0, 1, 2, 3, 4, 5, 6, 7);
        reads("7 bytes, the last 0", -1, 18, 'a', 0, 1, 2, 3, 4, 5, 6, 0);
        reads("8 bytes", 0, 18, 'a', 0, 1, 2, 3, 4, 5, 6, 7, 8);
        reads("9 bytes", -1, 18, 'a', 0, 1, 2, 3, 4, 5, 6, 7, 8, 9);
        reads("4 bytes", -1, 18, 'a', 0, 1, 2, 3, 4);
        reads("no bytes", -1, 18, 'a', 0);
        reads("8 bytes and an element", 0, 18, 'a', 0, 1, 2, 3, 4, 5, 6, 7, 8, 10, 'b', 0);
        Check.on("$gt", Integer.MAX_VALUE, 2147483648L, true);
        Check.on("$lt", Integer.MIN_VALUE, -2147483649L, true);
        Check.on("$eq", 0, 4294967296L, false);
    }

    private static void signs() {
        int[] minus32 = {16, 255, 255, 255, 255};
        int[] minus64 = {18, 255, 255, 255, 255, 255, 255, 255, 255};
        int[] least32 = {16, 0, 0, 0, 128};
        int[] least64 = {18, 0, 0, 0, 0, 0, 0, 0, 128};
        int[] most32 = {16, 255, 255, 255, 127};
        int[] most64 = {18, 255, 255, 255, 255, 255, 255, 255, 127};
        int[] zero = {16, 0, 0, 0, 0};
        for (int[] below : new int[][] {minus32, minus64, least32, least64}) {
            Check.due("$lt 0 of " + Arrays.toString(below), asks("$lt", zero, below), 1);
            for (int[] above : new int[][] {zero, most32, most64}) {
                Check.due("$gt of " + Arrays.toString(above), asks("$gt", below, above), 1);
            }
        }
        Check.due("-1 of both kinds", asks("$eq", minus32, minus64), 1);
        Check.due("the least of both kinds", asks("$lt", least32, least64), 1);
        Check.due("the most of both kinds", asks("$gt", most32, most64), 1);
    }

    private static void truths() {
        for (int b = 0; b < 256; b++) {
            reads("the truth " + b, b < 2 ? 0 : -1, 8, 'a', 0, b);
        }
        reads("no byte", -1, 8, 'a', 0);
        reads("two bytes", -1, 8, 'a', 0, 1, 0);
        reads("a byte and an element", 0, 8, 'a', 0, 1, 10, 'b', 0);
        Check.due("0 is not 1", asks("$eq", new int[] {8, 0}, new int[] {8, 1}), 0);
        Check.due("1 is 1", asks("$eq", new int[] {8, 1}, new int[] {8, 1}), 1);
        Check.due("0 is 0", asks("$eq", new int[] {8, 0}, new int[] {8, 0}), 1);
    }

    private static void nothing() {
        reads("no bytes", 0, 10, 'a', 0);
        reads("a byte 0", -1, 10, 'a', 0, 0);
        reads("a byte 1", -1, 10, 'a', 0, 1);
        reads("two of them", 0, 10, 'a', 0, 10, 'b', 0);
        Check.due("NOTHING is NOTHING", asks("$eq", new int[] {10}, new int[] {10}), 1);
    }

    private static void texts() {
        for (int size = -2; size < 9; size++) {
            // The size, "xyz" and a 0: 4 is right, and each lesser one has no 0 at its end.
            byte[] bytes = Check.around(2, 'a', 0, 0, 0, 0, 0, 'x', 'y', 'z', 0);
            System.arraycopy(Doc.number(size, 4), 0, bytes, 7, 4);
            Check.reads("xyz as a text of size " + size, bytes, size == 4 ? 0 : -1);
        }
        for (int size : new int[] {Integer.MIN_VALUE, Integer.MIN_VALUE + 4, Integer.MAX_VALUE, 4 + 256, 4 + 65536,
            4 + (1 << 24), 2000, 2001}) {
            byte[] bytes = Check.around(2, 'a', 0, 0, 0, 0, 0, 'x', 'y', 'z', 0);
            System.arraycopy(Doc.number(size, 4), 0, bytes, 7, 4);
            Check.reads("xyz as a text of size " + size, bytes, -1);
        }
        reads("size 0 and no byte", -1, 2, 'a', 0, 0, 0, 0, 0);
        reads("size 0 and a 0", -1, 2, 'a', 0, 0, 0, 0, 0, 0);
        reads("size 1 and a 0: the empty text", 0, 2, 'a', 0, 1, 0, 0, 0, 0);
        reads("size 1 and no byte", -1, 2, 'a', 0, 1, 0, 0, 0);
        reads("size 1 and another byte", -1, 2, 'a', 0, 1, 0, 0, 0, 'x');
        reads("size 2 and one character", 0, 2, 'a', 0, 2, 0, 0, 0, 'x', 0);
        reads("three bytes of the size", -1, 2, 'a', 0, 1, 0, 0);
        reads("no bytes", -1, 2, 'a', 0);
        reads("a text up to the last 0 of the document", -1, 2, 'a', 0, 2, 0, 0, 0, 'x');
        reads("a 0 among them", 0, 2, 'a', 0, 4, 0, 0, 0, 'x', 0, 'y', 0);
        reads("a 0 alone", 0, 2, 'a', 0, 2, 0, 0, 0, 0, 0);
        reads("a last byte that is not 0", -1, 2, 'a', 0, 4, 0, 0, 0, 'x', 0, 'y', 1);
        reads("a last byte that begins an element", -1, 2, 'a', 0, 1, 0, 0, 0, 10, 'b', 0);
        reads("wrong UTF-8", -1, 2, 'a', 0, 2, 0, 0, 0, 0x80, 0);
        reads("a character cut by the last 0", -1, 2, 'a', 0, 2, 0, 0, 0, 0xc3, 0);
        reads("wrong UTF-8 that would be an element", -1, 2, 'a', 0, 4, 0, 0, 0, 10, 0xc3, 0, 0);
        reads("a text and an element", 0, 2, 'a', 0, 2, 0, 0, 0, 'x', 0, 10, 'b', 0);
        Check.reads("a text as long as it may be", Doc.of("", text(1988)).bytes(), 0);
        Check.on("$eq", "x\0y", "x\0y", true);
        Check.on("$eq", "x\0y", "x\0z", false);
        Check.on("$eq", "x", "x\0", false);
        Check.on("$eq", "", "", true);
    }

    private static void sizesWithin(int kind) {
        String what = kind == 3 ? "document" : "row";
        for (int size : WRONG_SIZES) {
            byte[] bytes = Check.around(kind, 'a', 0, 0, 0, 0, 0, 0);
            System.arraycopy(Doc.number(size, 4), 0, bytes, 7, 4);
            Check.reads("an empty " + what + " within with size " + size, bytes, -1);
        }
        for (int change = -13; change <= 13; change++) {
            byte[] bytes = Check.around(kind, 'a', 0, 12, 0, 0, 0, 16, '0', 0, 1, 0, 0, 0, 0, 8, 'b', 0, 1);
            bytes[7] += change;
            Check.reads("a " + what + " of 12 bytes within with size " + bytes[7], bytes, change == 0 ? 0 : -1);
        }
        reads("an empty " + what, 0, kind, 'a', 0, 5, 0, 0, 0, 0);
        reads("no bytes of a " + what, -1, kind, 'a', 0);
        reads("three bytes of a " + what, -1, kind, 'a', 0, 5, 0, 0);
        reads("four bytes of a " + what, -1, kind, 'a', 0, 5, 0, 0, 0);
        reads("a " + what + " whose last is not 0", -1, kind, 'a', 0, 5, 0, 0, 0, 1);
        reads("a " + what + " whose element goes over its end", -1, kind, 'a', 0, 7, 0, 0, 0, 10, '0', 0, 0);
        reads("a " + what + " with an element", 0, kind, 'a', 0, 8, 0, 0, 0, 10, '0', 0, 0);
        reads("an element behind a " + what, 0, kind, 'a', 0, 8, 0, 0, 0, 10, '0', 0, 0, 10, '0', 0);
        reads("a wrong element within a " + what, -1, kind, 'a', 0, 9, 0, 0, 0, 8, '0', 0, 2, 0);
        // What follows would be an element of the outer document, if the wrong end were let pass.
        for (int size : new int[] {0, 3, 4, 100, 255}) {
            reads("size " + size + " of a " + what + " and an element", -1, kind, 'a', 0, size, 0, 0, 0, 10, 'b', 0);
        }
        reads("a " + what + " whose last begins an element", -1, kind, 'a', 0, 5, 0, 0, 0, 10, 'b', 0);
        reads("a wrong kind within a " + what + ", and an element", -1, kind, 'a', 0, 11, 0, 0, 0, 99, '0', 0,
            8, 'z', 0, 0);
    }

    private static void documentsWithin() {
        sizesWithin(3);
        Check.holds(Doc.of("a", Doc.of()), Doc.of("a", Doc.of()), true);
        Check.holds(Doc.of("a.b", 1), Doc.of("a", Doc.of("b", 1)), true);
        Check.holds(Doc.of("a.b", 1), Doc.of("a", Doc.of("b", 2)), false);
    }

    private static void rowNamed(int want, String... names) {
        Doc row = Doc.row();
        for (String name : names) {
            row.with(name, null);
        }
        Check.reads("a row with the names " + Arrays.toString(names), Doc.of("r", row).bytes(), want);
    }

    /** The names of a row with so many items, and one more. */
    private static String[] namesAnd(int items, String last) {
        String[] names = new String[items + 1];
        for (int i = 0; i < items; i++) {
            names[i] = "" + i;
        }
        names[items] = last;
        return names;
    }

    private static void rows() {
        sizesWithin(4);
        rowNamed(0);
        String[] wrong = {"", "1", "00", "-0", "+0", "0 ", " 0", "0.0", "x", "\u0660", "10", "0x"};
        for (String name : wrong) {
            rowNamed(-1, name);
        }
        rowNamed(-1, "1", "0");
        rowNamed(-1, "0", "2", "1");
        for (int items : new int[] {0, 1, 8, 9, 10, 11, 98, 99, 100, 101, 255, 256, 257}) {
            rowNamed(0, namesAnd(items, "" + items));
            rowNamed(-1, namesAnd(items, "" + (items + 1)));
            rowNamed(-1, namesAnd(items, "0" + items));
            rowNamed(-1, namesAnd(items, "1" + items));
            rowNamed(-1, namesAnd(items, items + "0"));
            rowNamed(-1, namesAnd(items, ("" + items).substring(1)));
            rowNamed(-1, namesAnd(items, "" + (items - 1)));
        }
        rowNamed(-1, namesAnd(256, "0"));
        rowNamed(-1, namesAnd(10, "0"));
        rowNamed(-1, namesAnd(10, "1"));
        Doc full = Doc.row();
        while (Doc.of("r", full).bytes().length <= 1995) {
            full.item(null);
        }
        Check.due("bytes of the fullest row", Doc.of("r", full).bytes().length, 1998);
        Check.holds(Doc.of("r", Doc.of("$size", full.size())), Doc.of("r", full), true);
        Check.holds(Doc.of("r." + (full.size() - 1), Doc.of("$exists", true)), Doc.of("r", full), true);
        Check.holds(Doc.of("r." + full.size(), Doc.of("$exists", true)), Doc.of("r", full), false);
        Check.reads("a document with a row's names in another order", Doc.of("1", 1, "0", 2).bytes(), 0);
        Check.reads("an outermost document with a row's names", Doc.of("0", 1, "1", 2).bytes(), 0);
    }

    private static boolean isRight(byte[] bytes) {
        try {
            StandardCharsets.UTF_8.newDecoder().decode(ByteBuffer.wrap(bytes));
            return true;
        } catch (CharacterCodingException wrong) {
            return false;
        }
    }

    /** The bytes as a text, and as a name where there is no 0 among them. */
    private static void utf8(int... bytes) {
        byte[] them = new byte[bytes.length];
        boolean zero = false;
        for (int i = 0; i < bytes.length; i++) {
            them[i] = (byte) bytes[i];
            zero |= bytes[i] == 0;
        }
        int want = isRight(them) ? 0 : -1;
        utf8(want, them, zero);
    }

    private static void utf8(int want, byte[] them, boolean zero) {
        byte[] asText = new byte[them.length + 13];
        System.arraycopy(Doc.number(asText.length, 4), 0, asText, 0, 4);
        asText[4] = 2;
        asText[5] = 'a';
        System.arraycopy(Doc.number(them.length + 1, 4), 0, asText, 7, 4);
        System.arraycopy(them, 0, asText, 11, them.length);
        Check.due("the text " + Arrays.toString(them), Check.read(new FilterReader(), 0, asText), want);
        if (!zero) {
            byte[] asName = new byte[them.length + 7];
            System.arraycopy(Doc.number(asName.length, 4), 0, asName, 0, 4);
            asName[4] = 10;
            System.arraycopy(them, 0, asName, 5, them.length);
            Check.due("the name " + Arrays.toString(them), Check.read(new FilterReader(), 0, asName), want);
        }
    }

    private static void rightUtf8() {
        namedEdges();
        for (int a = 0; a < 256; a++) {
            utf8(a);
            for (int b = 0; b < 256; b++) {
                utf8(a, b);
            }
        }
        int[] seconds = {0, 0x41, 0x7f, 0x80, 0x8f, 0x90, 0x9f, 0xa0, 0xbf, 0xc0, 0xff};
        int[] others = {0x7f, 0x80, 0xbf, 0xc0};
        for (int a = 0x7f; a < 256; a++) {
            for (int b : seconds) {
                for (int c : others) {
                    utf8(a, b, c);
                    for (int d : others) {
                        utf8(a, b, c, d);
                    }
                }
            }
        }
        allCharacters();
    }

    private static void edge(int want, int... bytes) {
        byte[] them = new byte[bytes.length];
        for (int i = 0; i < bytes.length; i++) {
            them[i] = (byte) bytes[i];
        }
        utf8(want, them, false);
    }

    private static void namedEdges() {
        edge(0, 0x7f);
        edge(-1, 0xc1, 0xbf);
        edge(0, 0xc2, 0x80);
        edge(0, 0xdf, 0xbf);
        edge(-1, 0xe0, 0x9f, 0xbf);
        edge(0, 0xe0, 0xa0, 0x80);
        // 55295, 55296, 57343, 57344
        edge(0, 0xed, 0x9f, 0xbf);
        edge(-1, 0xed, 0xa0, 0x80);
        edge(-1, 0xed, 0xbf, 0xbf);
        edge(0, 0xee, 0x80, 0x80);
        edge(0, 0xef, 0xbf, 0xbf);
        edge(-1, 0xf0, 0x8f, 0xbf, 0xbf);
        edge(0, 0xf0, 0x90, 0x80, 0x80);
        // 1114111, 1114112
        edge(0, 0xf4, 0x8f, 0xbf, 0xbf);
        edge(-1, 0xf4, 0x90, 0x80, 0x80);
        edge(-1, 0xf5, 0x80, 0x80, 0x80);
        edge(-1, 0xf8, 0x88, 0x80, 0x80, 0x80);
        edge(-1, 0xfc, 0x84, 0x80, 0x80, 0x80, 0x80);
        edge(-1, 0xc2);
        edge(-1, 0xef, 0xbf);
        edge(-1, 0xf0, 0x90, 0x80);
        edge(-1, 0xc2, 0x80, 0x80);
        edge(-1, 'a', 0xc2, 'b');
        edge(0, 'a', 0xc3, 0xa4, 'b', 0xe2, 0x82, 0xac, 'c', 0xf0, 0x9f, 0x98, 0x80, 'd');
    }

    /** Every character that there is, some hundreds to a text. */
    private static void allCharacters() {
        StringBuilder text = new StringBuilder();
        for (int code = 1; code <= 1114111; code++) {
            if (code < 55296 || code > 57343) {
                text.appendCodePoint(code);
            }
            if (text.length() >= 600 || code == 1114111) {
                utf8(0, text.toString().getBytes(StandardCharsets.UTF_8), true);
                text.setLength(0);
            }
        }
    }

    private static void differentNames() {
        reads("two names", 0, 10, 'a', 0, 10, 'b', 0);
        reads("one name twice", -1, 10, 'a', 0, 10, 'a', 0);
        reads("one name twice with other values", -1, 10, 'a', 0, 8, 'a', 0, 1);
        reads("the empty name twice", -1, 10, 0, 10, 0);
        reads("the empty name and another", 0, 10, 0, 10, 'a', 0);
        reads("the first name again behind others", -1, 10, 'a', 0, 10, 'b', 0, 10, 'c', 0, 10, 'a', 0);
        reads("the second name again behind others", -1, 10, 'a', 0, 10, 'b', 0, 10, 'c', 0, 10, 'b', 0);
        reads("a name that begins another", 0, 10, 'a', 0, 10, 'a', 'a', 0);
        reads("a name that another begins", 0, 10, 'a', 'a', 0, 10, 'a', 0);
        reads("names of which one is large", 0, 10, 'a', 0, 10, 'A', 0);
        reads("one name in two documents, one in the other", 0, 3, 'a', 0, 8, 0, 0, 0, 10, 'a', 0, 0);
        reads("one name in two documents side by side", 0, 3, 'a', 0, 8, 0, 0, 0, 10, 'x', 0, 0,
            3, 'b', 0, 8, 0, 0, 0, 10, 'x', 0, 0);
        reads("one name twice within", -1, 3, 'a', 0, 11, 0, 0, 0, 10, 'x', 0, 10, 'x', 0, 0);
        reads("one name twice within, and what would be an element behind it", -1, 3, 'a', 0, 14, 0, 0, 0, 10, 'x', 0,
            10, 'x', 0, 8, 'z', 0, 0);
        Doc many = Doc.of();
        for (int i = 0; i < 490; i++) {
            many.with(Integer.toString(i + 36, 36), null);
        }
        Check.reads("490 names", many.bytes(), 0);
        for (int again : new int[] {0, 244, 489}) {
            Doc twice = Doc.of();
            for (int i = 0; i <= 490; i++) {
                twice.with(many.names.get(i < 490 ? i : again), null);
            }
            Check.reads("490 names and number " + again + " again", twice.bytes(), -1);
        }
    }

    private static void atMost2000() {
        for (int size = 1998; size <= 2000; size++) {
            byte[] bytes = Doc.of("a", text(size - 13)).bytes();
            Check.due("bytes", bytes.length, size);
            Check.reads("a text in " + size + " bytes", bytes, 0);
        }
        byte[] more = Doc.of("a", text(1988)).bytes();
        Check.due("bytes", more.length, 2001);
        FilterReader x = new FilterReader();
        Check.feed(x, more);
        Check.due("read of 2,001 bytes", x.read(0, 2001), -2);
        Check.due("read of the first 2,000 of 2,001", x.read(0, 2000), -1);
        Check.feed(x, more);
        Check.due("filter of 2,001 bytes", x.filter(0, 2001), -2);
        Check.due("filter of the first 2,000 of 2,001", x.filter(0, 2000), -1);
        Doc small = Doc.of("#", null);
        for (int i = 0; i < 498; i++) {
            small.with(Integer.toString(i + 36, 36), null);
        }
        Check.due("bytes", small.bytes().length, 2000);
        Check.reads("499 elements in 2,000 bytes", small.bytes(), 0);
        Check.holds(Doc.of("#", Doc.of("$exists", true), small.names.get(498), Doc.of("$exists", true)), small, true);
    }

    /** Documents or rows, in turns or not, the outermost one being a document. */
    private static Doc nested(int deep, boolean documents, boolean rows) {
        Doc within = rows && !(documents && deep % 2 == 1) ? Doc.row() : Doc.of();
        for (int i = deep - 1; i > 1; i--) {
            boolean row = rows && !(documents && i % 2 == 1);
            within = row ? Doc.row(within) : Doc.of("a", within);
        }
        return Doc.of("a", within);
    }

    private static void atMost16Deep() {
        Check.reads("one that is 1 deep", Doc.of().bytes(), 0);
        for (int deep = 2; deep <= 40; deep++) {
            Check.reads("documents " + deep + " deep", nested(deep, true, false).bytes(), deep <= 16 ? 0 : -1);
            Check.reads("rows " + deep + " deep", nested(deep, false, true).bytes(), deep <= 16 ? 0 : -1);
            Check.reads("both " + deep + " deep", nested(deep, true, true).bytes(), deep <= 16 ? 0 : -1);
        }
        Check.reads("documents 190 deep", nested(190, true, false).bytes(), -1);
        Doc wide = Doc.of();
        for (int i = 0; i < 10; i++) {
            wide.with("a" + i, nested(15, true, true));
        }
        Check.reads("ten side by side, 16 deep", wide.bytes(), 0);
        Check.reads("ten side by side, the last 17 deep", wide.with("b", nested(16, true, true)).bytes(), -1);
        FilterReader x = new FilterReader();
        Check.due("17 deep", Check.read(x, 0, nested(17, true, true)), -1);
        Check.due("16 deep behind it", Check.read(x, 0, nested(16, true, true)), 0);
        Check.due("a filter 17 deep", Check.filter(x, 0, nested(17, true, false)), -1);
        Check.due("a filter 16 deep behind it", Check.filter(x, 0, nested(16, true, false)), 0);
        sameUpTo16();
    }

    /** What is 16 deep is looked at as all else. */
    private static void sameUpTo16() {
        for (boolean rows : new boolean[] {false, true}) {
            Object less = 1;
            Object greater = 2;
            for (int i = 0; i < 14; i++) {
                less = rows ? Doc.row(less) : Doc.of("a", less);
                greater = rows ? Doc.row(greater) : Doc.of("a", greater);
            }
            Check.holds(Doc.of("a", Doc.of("$eq", less)), Doc.of("a", less), true);
            Check.holds(Doc.of("a", Doc.of("$eq", less)), Doc.of("a", greater), false);
            Check.holds(Doc.of("a", Doc.of("$lt", greater)), Doc.of("a", less), true);
            Check.holds(Doc.of("a", Doc.of("$gt", greater)), Doc.of("a", less), false);
        }
    }
}
