import java.util.Random;

/** Promises 3 to 9: random documents, bytes and filters against the reference. */
public final class RandomTest {
    private static final String[] NAMES = {"a", "b", "0", "1", "c"};
    private static final String[] STEPS = {"a", "b", "0", "1", "a", "b", "c", "00"};
    private static final String[] PLAIN = {"$eq", "$ne", "$lt", "$lte", "$gt", "$gte"};
    private static final String[] ALL = {"$eq", "$ne", "$lt", "$lte", "$gt", "$gte", "$in", "$nin", "$exists", "$size",
        "$elem", "$not", "$elem", "$not"};
    private static final String[] JOINS = {"$and", "$or", "$nor"};

    private final Random random;
    private int faultsPerMille;
    private int ones;
    private int zeros;
    private final int[] faults = new int[6];

    RandomTest(int seed) {
        random = new Random(seed);
    }

    public static void main(String[] args) {
        RandomTest test = new RandomTest(20261115);
        for (int i = 0; i < 6000; i++) {
            test.askFilters();
        }
        for (int i = 0; i < 20000; i++) {
            test.readChangedBytes();
        }
        for (int i = 0; i < 4000; i++) {
            test.readFaultyFilter();
        }
        System.out.println(test.ones + " held, " + test.zeros + " did not");
        for (int fault = 0; fault < 6; fault++) {
            System.out.println("fault " + fault + ": " + test.faults[fault]);
            Check.due("some with fault " + fault, test.faults[fault] > 20 ? 1 : 0, 1);
        }
        Check.due("enough that hold and do not", test.ones > 5000 && test.zeros > 5000 ? 1 : 0, 1);
        Check.end();
    }

    private void askFilters() {
        faultsPerMille = 0;
        FilterReader x = new FilterReader();
        Doc[] documents = new Doc[4];
        for (int slot = 0; slot < 4; slot++) {
            documents[slot] = document(5);
            Check.due("read of " + documents[slot], Check.read(x, slot, documents[slot]), 0);
        }
        for (int f = 0; f < 4; f++) {
            Doc filter = filter(4);
            if (filter.bytes().length > 2000 || Reference.survey(filter).faults.size() > 0) {
                continue;
            }
            Check.due("filter of " + filter, Check.filter(x, f, filter), 0);
            int which = 0;
            for (int slot = 0; slot < 4; slot++) {
                int fails = Reference.fails(filter, documents[slot]);
                String call = filter + " for " + documents[slot];
                Check.due("fails of " + call, x.fails(f, slot), fails);
                Check.due("holds of " + call, x.holds(f, slot), fails < 0 ? 1 : 0);
                which |= fails < 0 ? 1 << slot : 0;
                ones += fails < 0 ? 1 : 0;
                zeros += fails < 0 ? 0 : 1;
            }
            Check.due("which of " + filter, x.which(f), which);
        }
    }

    private void readChangedBytes() {
        byte[] bytes = document(4).bytes();
        if (bytes.length > 2000) {
            return;
        }
        int changes = random.nextInt(3);
        for (int i = 0; i < changes; i++) {
            int at = random.nextInt(bytes.length);
            bytes[at] = (byte) (random.nextBoolean() ? random.nextInt(256) : bytes[at] + random.nextInt(5) - 2);
        }
        FilterReader x = new FilterReader();
        Doc parsed = Reference.parse(bytes);
        Check.due("read of " + java.util.Arrays.toString(bytes), Check.read(x, 0, bytes), parsed == null ? -1 : 0);
        if (parsed == null) {
            Check.due("place() behind no filter", Check.filter(x, 0, bytes) == -1 ? x.place() : -9, -1);
        } else {
            int kept = Check.filter(x, 1, Doc.of("$and", Doc.row(Doc.of("a", first(parsed)))));
            Check.due("the a of " + parsed, kept == 0 ? x.holds(1, 0) : -9, 1);
        }
    }

    /** A document or a filter, sometimes a wrong one. */
    byte[] someBytes(boolean filter) {
        faultsPerMille = random.nextInt(4) == 0 ? 60 : 0;
        byte[] bytes = (filter ? filter(3) : document(4)).bytes();
        if (random.nextInt(8) == 0) {
            bytes[random.nextInt(bytes.length)] += random.nextInt(5) - 2;
        }
        return bytes;
    }

    private static Object first(Doc document) {
        int i = document.names.indexOf("a");
        Object value = i < 0 ? null : document.values.get(i);
        return Doc.of("$eq", value);
    }

    private void readFaultyFilter() {
        faultsPerMille = random.nextInt(60);
        Doc filter = random.nextInt(8) == 0 ? broadFilter() : filter(4);
        if (filter.bytes().length > 2000) {
            return;
        }
        Reference.Survey survey = Reference.survey(filter);
        boolean right = survey.faults.isEmpty();
        int fault = right ? 0 : survey.faults.firstEntry().getValue();
        int place = right ? -1 : survey.faults.firstKey();
        FilterReader x = new FilterReader();
        faults[fault]++;
        Check.due("filter of " + filter, Check.filter(x, 2, filter), fault);
        Check.due("place() of " + filter, x.place(), place);
        for (int what = 0; what < 4; what++) {
            Check.due("many(2, " + what + ") of " + filter, x.many(2, what), right ? survey.many[what] : 0);
        }
    }

    private <T> T one(T[] of) {
        return of[random.nextInt(of.length)];
    }

    private boolean faulty() {
        return random.nextInt(1000) < faultsPerMille;
    }

    private Doc document(int depth) {
        Doc made = Doc.of();
        for (String name : NAMES) {
            if (random.nextInt(3) > 0 && made.size() < 3) {
                made.with(name, value(depth - 1));
            }
        }
        return made;
    }

    private Doc row(int depth) {
        Doc made = Doc.row();
        int items = random.nextInt(4);
        for (int i = 0; i < items; i++) {
            made.item(value(depth - 1));
        }
        return made;
    }

    private Object value(int depth) {
        switch (random.nextInt(depth > 0 ? 12 : 6)) {
            case 0:
                return null;
            case 1:
                return random.nextInt(4) - 1;
            case 2:
                return (long) random.nextInt(3);
            case 3:
                return random.nextBoolean();
            case 4:
                return one(new String[] {"", "a", "ab", "ä", "b\0"});
            case 5:
                return random.nextInt(3);
            case 6:
            case 7:
            case 8:
                return document(depth);
            default:
                return row(depth);
        }
    }

    private String path() {
        StringBuilder path = new StringBuilder(one(STEPS));
        int more = random.nextInt(4);
        for (int i = 0; i < more; i++) {
            path.append('.').append(one(STEPS));
        }
        if (faulty()) {
            path.append(one(new String[] {".", "..x", ".$x", ".1.2.3.4.5.6.7", ".1.2.3.4.5.6.7.8"}));
        }
        return faulty() ? one(new String[] {"", "$x", "$eq", ".a", "$and.a"}) : path.toString();
    }

    private Doc filter(int depth) {
        Doc made = Doc.of();
        int elements = random.nextInt(depth > 2 ? 3 : 2) + (random.nextInt(20) == 0 ? 0 : 1);
        for (int i = 0; i < elements; i++) {
            if (depth > 0 && random.nextInt(4) == 0) {
                add(made, one(JOINS), joined(depth));
            } else {
                add(made, path(), random.nextInt(5) == 0 ? value(1) : conditions(depth));
            }
        }
        return made;
    }

    private static void add(Doc made, String name, Object value) {
        if (!made.names.contains(name)) {
            made.with(name, value);
        }
    }

    private Object joined(int depth) {
        if (faulty()) {
            return value(1);
        }
        Doc made = Doc.row();
        int parts = random.nextInt(3) + (faulty() ? 0 : 1);
        for (int i = 0; i < parts; i++) {
            made.item(faulty() ? value(1) : filter(depth - 1));
        }
        return made;
    }

    private Doc conditions(int depth) {
        Doc made = Doc.of();
        int count = random.nextInt(6) == 0 ? 2 : 1;
        for (int i = 0; i < count; i++) {
            String name = one(depth > 0 ? ALL : PLAIN);
            add(made, faulty() ? one(new String[] {"$x", "a", "$and", ""}) : name, conditionValue(name, depth));
        }
        return made;
    }

    private Object conditionValue(String name, int depth) {
        if (faulty()) {
            return value(1);
        }
        switch (name) {
            case "$in":
            case "$nin":
                return row(2);
            case "$exists":
                return random.nextBoolean();
            case "$size":
                return random.nextBoolean() ? (Object) random.nextInt(4) : (Object) (long) random.nextInt(4);
            case "$elem":
                return random.nextBoolean() ? filter(depth - 1) : conditions(depth - 1);
            case "$not":
                return conditions(depth - 1);
            default:
                return value(2);
        }
    }

    /** A filter with about as many elements as there may be. */
    private Doc broadFilter() {
        Doc made = Doc.of();
        int elements = 30 + random.nextInt(20);
        for (int i = 0; i < elements; i++) {
            Object value = i % 3 == 0 ? 1 : i % 3 == 1 ? Doc.of("$lt", 1, "$gt", null) : Doc.of("$exists", true);
            made.with("x" + i, faulty() ? Doc.of("$gt", 1, "x", 1) : value);
        }
        return made;
    }
}
