import java.util.Arrays;
import java.util.Random;

/**
 * Promises 1 to 9 together: random runs of 512 calls, refused ones among them, against a model
 * that keeps what the document says an object has.
 */
public final class CallsTest {
    private static final int CALLS = 512;

    private final Random random;
    private final RandomTest maker;
    private final FilterReader x = new FilterReader();
    private final Doc[] slots = {Doc.of(), Doc.of(), Doc.of(), Doc.of()};
    private final Doc[] filters = {Doc.of(), Doc.of(), Doc.of(), Doc.of()};
    private byte[] tape = {};
    private int place = -1;
    private int calls;

    private CallsTest(int seed) {
        random = new Random(seed);
        maker = new RandomTest(seed);
    }

    public static void main(String[] args) {
        for (int seed = 0; seed < 600; seed++) {
            Check.under("run " + seed);
            new CallsTest(seed).run();
        }
        Check.end();
    }

    private void run() {
        while (calls < CALLS) {
            switch (random.nextInt(6)) {
                case 0:
                    feedAny();
                    break;
                case 1:
                case 2:
                    feedAndTake();
                    break;
                case 3:
                    take(number(), random.nextInt(50) - 2, random.nextBoolean());
                    break;
                default:
                    ask();
            }
        }
    }

    /** Mostly a slot or a filter, sometimes none. */
    private int number() {
        return random.nextInt(12) == 0 ? Check.NO_NUMBERS[random.nextInt(Check.NO_NUMBERS.length)] : random.nextInt(4);
    }

    private boolean isNumber(int number) {
        return number >= 0 && number < 4;
    }

    private void due(String call, int got, int want) {
        calls++;
        Check.due("call " + calls + ", " + call, got, want);
    }

    private void feedAny() {
        for (int i = random.nextInt(110) < 109 ? 1 : 105; i > 0 && calls < CALLS; i--) {
            feed(random.nextInt(), random.nextInt(3), 0, random.nextInt(), random.nextInt(256) << 24);
        }
    }

    private void feed(int... numbers) {
        boolean room = tape.length + 20 <= 2000;
        int got = x.feed(numbers[0], numbers[1], numbers[2], numbers[3], numbers[4]);
        due("feed" + Arrays.toString(numbers), got, room ? tape.length + 20 : -1);
        if (room) {
            tape = Arrays.copyOf(tape, tape.length + 20);
            for (int i = 0; i < 20; i++) {
                tape[tape.length - 20 + i] = (byte) (numbers[i / 4] >> (24 - 8 * (i % 4)));
            }
        }
    }

    /** A document or a filter on the tape, and a call that takes it, or nearly it. */
    private void feedAndTake() {
        boolean asFilter = random.nextBoolean();
        byte[] bytes = maker.someBytes(asFilter);
        if (bytes.length > 400) {
            return;
        }
        byte[] all = Arrays.copyOf(bytes, (bytes.length + 19) / 20 * 20);
        for (int i = 0; i < all.length && calls < CALLS; i += 20) {
            int[] numbers = new int[5];
            for (int j = 0; j < 20; j++) {
                numbers[j / 4] = numbers[j / 4] << 8 | all[i + j] & 255;
            }
            feed(numbers);
        }
        if (calls < CALLS && random.nextInt(10) == 0) {
            take(number(), bytes.length + random.nextInt(60) - 30, asFilter);
        }
        if (calls < CALLS) {
            take(number(), bytes.length, asFilter);
        }
    }

    private void take(int number, int n, boolean asFilter) {
        String call = (asFilter ? "filter(" : "read(") + number + ", " + n + ")";
        int got = asFilter ? x.filter(number, n) : x.read(number, n);
        if (!isNumber(number) || n < 0 || n > tape.length) {
            due(call, got, -2);
            return;
        }
        Doc document = Reference.parse(Arrays.copyOf(tape, n));
        tape = new byte[0];
        if (!asFilter) {
            due(call, got, document == null ? -1 : 0);
            slots[number] = document == null ? slots[number] : document;
        } else if (document == null) {
            due(call, got, -1);
            place = -1;
        } else {
            Reference.Survey survey = Reference.survey(document);
            boolean right = survey.faults.isEmpty();
            due(call, got, right ? 0 : survey.faults.firstEntry().getValue());
            place = right ? -1 : survey.faults.firstKey();
            filters[number] = right ? document : filters[number];
        }
    }

    private void ask() {
        int f = number();
        int other = number();
        boolean both = isNumber(f) && isNumber(other);
        switch (random.nextInt(5)) {
            case 0:
                due("place()", x.place(), place);
                break;
            case 1:
                due("many(" + f + ", " + other + ")", x.many(f, other),
                    both ? Reference.survey(filters[f]).many[other] : -1);
                break;
            case 2:
                due("holds(" + f + ", " + other + ")", x.holds(f, other), both ? holds(f, other) : -1);
                break;
            case 3:
                due("fails(" + f + ", " + other + ")", x.fails(f, other),
                    both ? Reference.fails(filters[f], slots[other]) : -2);
                break;
            default:
                int bits = 0;
                for (int slot = 0; slot < 4 && isNumber(f); slot++) {
                    bits |= holds(f, slot) << slot;
                }
                due("which(" + f + ")", x.which(f), isNumber(f) ? bits : -1);
        }
    }

    private int holds(int f, int slot) {
        return Reference.fails(filters[f], slots[slot]) < 0 ? 1 : 0;
    }
}
