/**
 * Filters, which are documents themselves: read and refused at the first thing that is not so,
 * and asked whether a document is one for them.
 */
public final class FilterReader {
    private static final int SLOTS = 4;
    private static final int FILTERS = 4;
    private static final int TAPE_BYTES = 2000;
    private static final int FEED_BYTES = 20;
    // What is read lies no deeper, so every recursion over documents and filters may end there.
    private static final int MAX_DEPTH = 16;
    private static final int MAX_STEPS = 8;
    private static final int MAX_RULES = 100;
    private static final int NO_PLACE = -1;

    private final Tape tape;
    private final Matcher matcher;
    private final Value[] slots;
    private final Filter[] filters;
    private int faultPlace;

    public FilterReader() {
        tape = new Tape();
        matcher = new Matcher();
        slots = new Value[SLOTS];
        for (int i = 0; i < SLOTS; i++) {
            slots[i] = new Value(Kind.DOCUMENT, NO_PLACE, "");
        }
        filters = new Filter[FILTERS];
        for (int i = 0; i < FILTERS; i++) {
            filters[i] = new Filter(new Value(Kind.DOCUMENT, NO_PLACE, ""));
        }
        faultPlace = NO_PLACE;
    }

    public int feed(int a, int b, int c, int d, int e) {
        if (!tape.hasRoom()) {
            return -1;
        }
        tape.put(a);
        tape.put(b);
        tape.put(c);
        tape.put(d);
        tape.put(e);
        return tape.count;
    }

    public int read(int slot, int n) {
        if (slotAt(slot) == null || !tape.has(n)) {
            return -2;
        }
        Value document = takeDocument(n);
        if (document == null) {
            return -1;
        }
        slots[slot] = document;
        return 0;
    }

    public int filter(int f, int n) {
        if (filterAt(f) == null || !tape.has(n)) {
            return -2;
        }
        Value document = takeDocument(n);
        if (document == null) {
            faultPlace = NO_PLACE;
            return -1;
        }
        FilterMaker maker = new FilterMaker(document);
        maker.make();
        faultPlace = maker.faultPlace;
        if (maker.fault == 0) {
            filters[f] = maker.made;
        }
        return maker.fault;
    }

    public int place() {
        return faultPlace;
    }

    public int many(int f, int what) {
        Filter asked = filterAt(f);
        if (asked == null || what < 0 || what >= asked.counts.length) {
            return -1;
        }
        return asked.counts[what];
    }

    public int holds(int f, int slot) {
        Filter asked = filterAt(f);
        Value document = slotAt(slot);
        if (asked == null || document == null) {
            return -1;
        }
        return matcher.firstFailing(asked.clauses, document, 0) < 0 ? 1 : 0;
    }

    public int fails(int f, int slot) {
        Filter asked = filterAt(f);
        Value document = slotAt(slot);
        if (asked == null || document == null) {
            return -2;
        }
        return matcher.firstFailing(asked.clauses, document, 0);
    }

    public int which(int f) {
        if (filterAt(f) == null) {
            return -1;
        }
        int bits = 0;
        for (int slot = 0; slot < SLOTS; slot++) {
            if (holds(f, slot) == 1) {
                bits |= 1 << slot;
            }
        }
        return bits;
    }

    /** The first n bytes of the tape as a document; null when they are none. Empties the tape. */
    private Value takeDocument(int n) {
        Value document = new DocumentReader(tape).readWhole(n);
        tape.clear();
        return document;
    }

    /** The document of a slot; null when there is no such slot. */
    private Value slotAt(int slot) {
        return slot >= 0 && slot < slots.length ? slots[slot] : null;
    }

    /** A filter; null when there is no such one. */
    private Filter filterAt(int f) {
        return f >= 0 && f < filters.length ? filters[f] : null;
    }

    private static boolean beginsWithDollar(String name) {
        return !name.isEmpty() && name.charAt(0) == '$';
    }

    /** The kinds of values as the bytes of a document tell them, and their classes in the order. */
    private static final class Kind {
        private static final int MISSING = 0;
        private static final int TEXT = 2;
        private static final int DOCUMENT = 3;
        private static final int ROW = 4;
        private static final int TRUTH = 8;
        private static final int NOTHING = 10;
        private static final int WHOLE_32 = 16;
        private static final int WHOLE_64 = 18;

        private static final int MISSING_CLASS = 0;
        private static final int NOTHING_CLASS = 1;
        private static final int NUMBER_CLASS = 2;
        private static final int TEXT_CLASS = 3;
        private static final int DOCUMENT_CLASS = 4;
        private static final int ROW_CLASS = 5;
        private static final int TRUTH_CLASS = 6;

        private static int classOf(int kind) {
            switch (kind) {
                case NOTHING:
                    return NOTHING_CLASS;
                case WHOLE_32:
                case WHOLE_64:
                    return NUMBER_CLASS;
                case TEXT:
                    return TEXT_CLASS;
                case DOCUMENT:
                    return DOCUMENT_CLASS;
                case ROW:
                    return ROW_CLASS;
                case TRUTH:
                    return TRUTH_CLASS;
                default:
                    return MISSING_CLASS;
            }
        }
    }

    /** The bytes that wait to be read. */
    private static final class Tape {
        private final int[] bytes = new int[TAPE_BYTES];
        private int count;

        private boolean hasRoom() {
            return count + FEED_BYTES <= TAPE_BYTES;
        }

        private boolean has(int n) {
            return n >= 0 && n <= count;
        }

        private void clear() {
            count = 0;
        }

        private void put(int number) {
            for (int shift = 24; shift >= 0; shift -= 8) {
                if (count >= 0 && count < bytes.length) {
                    bytes[count] = (number >>> shift) & 255;
                    count++;
                }
            }
        }

        private int byteAt(int at) {
            return at >= 0 && at < bytes.length ? bytes[at] : 0;
        }
    }

    /**
     * A value with its name and place: an element of a document, an item of a row, or a whole
     * document. Texts and names are held with one character for each byte.
     */
    private static final class Value {
        private final int kind;
        private final int place;
        private final String name;
        private String text = "";
        private long number;
        private Value first;
        private Value last;
        private Value next;
        private int count;

        private Value(int kind, int place, String name) {
            this.kind = kind;
            this.place = place;
            this.name = name;
        }

        private void add(Value part) {
            if (last == null) {
                first = part;
            } else {
                last.next = part;
            }
            last = part;
            count++;
        }

        /** The element or item of that name; null when there is none. */
        private Value named(String wanted) {
            for (Value part = first; part != null; part = part.next) {
                if (part.name.equals(wanted)) {
                    return part;
                }
            }
            return null;
        }

        private boolean isConditions() {
            return kind == Kind.DOCUMENT && first != null && beginsWithDollar(first.name);
        }
    }

    /** Reads a document from the tape; what it answers with false or null is no document. */
    private static final class DocumentReader {
        private static final int LEAST_SIZE = 5;
        private static final int LAST_CHARACTER = 1114111;
        private static final int FIRST_SURROGATE = 55296;
        private static final int LAST_SURROGATE = 57343;

        private final Tape tape;
        private int at;

        private DocumentReader(Tape tape) {
            this.tape = tape;
        }

        private Value readWhole(int n) {
            at = 0;
            Value whole = new Value(Kind.DOCUMENT, NO_PLACE, "");
            return readParts(whole, n, 1) && at == n ? whole : null;
        }

        /** The bytes of a document or a row, all of which have to lie before end. */
        private boolean readParts(Value outer, int end, int depth) {
            if (depth > MAX_DEPTH || end - at < LEAST_SIZE) {
                return false;
            }
            int start = at;
            int size = (int) readNumber(4);
            if (size < LEAST_SIZE || size > end - start) {
                return false;
            }
            int last = start + size - 1;
            for (int i = 0; i < TAPE_BYTES && at < last; i++) {
                Value part = readElement(last, depth);
                if (part == null || !mayFollow(outer, part)) {
                    return false;
                }
                outer.add(part);
            }
            if (at != last || tape.byteAt(last) != 0) {
                return false;
            }
            at = last + 1;
            return true;
        }

        private Value readElement(int end, int depth) {
            int place = at;
            int nameEnd = zeroFrom(place + 1, end);
            if (nameEnd < 0 || !isRightUtf8(place + 1, nameEnd)) {
                return null;
            }
            Value element = new Value(tape.byteAt(place), place, textOf(place + 1, nameEnd));
            at = nameEnd + 1;
            return readValue(element, end, depth) ? element : null;
        }

        private boolean readValue(Value element, int end, int depth) {
            switch (element.kind) {
                case Kind.NOTHING:
                    return true;
                case Kind.TRUTH:
                    return readTruth(element, end);
                case Kind.WHOLE_32:
                    return readWholeNumber(element, 4, end);
                case Kind.WHOLE_64:
                    return readWholeNumber(element, 8, end);
                case Kind.TEXT:
                    return readText(element, end);
                case Kind.DOCUMENT:
                case Kind.ROW:
                    return readParts(element, end, depth + 1);
                default:
                    return false;
            }
        }

        private boolean readTruth(Value element, int end) {
            if (end - at < 1 || tape.byteAt(at) > 1) {
                return false;
            }
            element.number = readNumber(1);
            return true;
        }

        private boolean readWholeNumber(Value element, int bytes, int end) {
            if (end - at < bytes) {
                return false;
            }
            long number = readNumber(bytes);
            element.number = bytes == 4 ? (int) number : number;
            return true;
        }

        private boolean readText(Value element, int end) {
            if (end - at < 4) {
                return false;
            }
            int size = (int) readNumber(4);
            if (size < 1 || size > end - at) {
                return false;
            }
            int last = at + size - 1;
            if (tape.byteAt(last) != 0 || !isRightUtf8(at, last)) {
                return false;
            }
            element.text = textOf(at, last);
            at = last + 1;
            return true;
        }

        /** A number with its lowest byte first. */
        private long readNumber(int bytes) {
            long number = 0;
            for (int i = 0; i < bytes; i++) {
                number |= (long) tape.byteAt(at) << (8 * i);
                at++;
            }
            return number;
        }

        private boolean mayFollow(Value outer, Value part) {
            if (outer.kind == Kind.ROW) {
                return isDecimal(part.name, outer.count);
            }
            return outer.named(part.name) == null;
        }

        private boolean isDecimal(String digits, int number) {
            int rest = number;
            for (int i = digits.length() - 1; i >= 0; i--) {
                if (digits.charAt(i) != '0' + rest % 10) {
                    return false;
                }
                if (rest < 10) {
                    return i == 0;
                }
                rest = rest / 10;
            }
            return false;
        }

        /** Where the first byte 0 stands; -1 when there is none before end. */
        private int zeroFrom(int from, int end) {
            for (int i = from; i < end; i++) {
                if (tape.byteAt(i) == 0) {
                    return i;
                }
            }
            return -1;
        }

        private String textOf(int from, int end) {
            if (from >= end) {
                return "";
            }
            char[] characters = new char[end - from];
            for (int i = 0; i < characters.length; i++) {
                characters[i] = (char) tape.byteAt(from + i);
            }
            return new String(characters);
        }

        private boolean isRightUtf8(int from, int end) {
            int code = 0;
            int least = 0;
            int awaited = 0;
            for (int i = from; i < end; i++) {
                int next = tape.byteAt(i);
                if (awaited == 0) {
                    awaited = followers(next);
                    code = leadingBits(next, awaited);
                    least = leastCode(awaited);
                } else {
                    awaited = (next & 192) == 128 ? awaited - 1 : -1;
                    code = (code << 6) | (next & 63);
                }
                if (awaited < 0 || (awaited == 0 && !isCharacter(code, least))) {
                    return false;
                }
            }
            return awaited == 0;
        }

        /** How many bytes belong to a character behind its first one; -1 when none begins so. */
        private int followers(int firstByte) {
            if (firstByte < 128) {
                return 0;
            }
            if (firstByte < 192 || firstByte > 247) {
                return -1;
            }
            return firstByte < 224 ? 1 : firstByte < 240 ? 2 : 3;
        }

        /** What the first byte of a character says of its number. */
        private int leadingBits(int firstByte, int followers) {
            return followers <= 0 ? firstByte : firstByte & (63 >> followers);
        }

        /** The least character that needs so many followers: a lesser one has a shorter form. */
        private int leastCode(int followers) {
            switch (followers) {
                case 1:
                    return 128;
                case 2:
                    return 2048;
                case 3:
                    return 65536;
                default:
                    return 0;
            }
        }

        private boolean isCharacter(int code, int least) {
            boolean surrogate = code >= FIRST_SURROGATE && code <= LAST_SURROGATE;
            return code >= least && code <= LAST_CHARACTER && !surrogate;
        }
    }

    /** The order of values: below 0, 0 or above 0, as the first is less, the same or greater. */
    private static final class Order {
        private static int compare(Value a, Value b, int depth) {
            int ofClass = Kind.classOf(a.kind);
            int byClass = Integer.compare(ofClass, Kind.classOf(b.kind));
            if (byClass != 0) {
                return byClass;
            }
            switch (ofClass) {
                case Kind.NUMBER_CLASS:
                case Kind.TRUTH_CLASS:
                    return Long.compare(a.number, b.number);
                case Kind.TEXT_CLASS:
                    return compareTexts(a.text, b.text);
                case Kind.DOCUMENT_CLASS:
                case Kind.ROW_CLASS:
                    return compareParts(a, b, depth);
                default:
                    return 0;
            }
        }

        /** Serves rows too: items at one place of two rows have the same name. */
        private static int compareParts(Value a, Value b, int depth) {
            if (depth > MAX_DEPTH) {
                return 0;
            }
            Value ofB = b.first;
            for (Value ofA = a.first; ofA != null; ofA = ofA.next) {
                if (ofB == null) {
                    return 1;
                }
                int order = compareElements(ofA, ofB, depth);
                if (order != 0) {
                    return order;
                }
                ofB = ofB.next;
            }
            return ofB == null ? 0 : -1;
        }

        private static int compareElements(Value a, Value b, int depth) {
            int byClass = Integer.compare(Kind.classOf(a.kind), Kind.classOf(b.kind));
            if (byClass != 0) {
                return byClass;
            }
            int byName = compareTexts(a.name, b.name);
            return byName != 0 ? byName : compare(a, b, depth + 1);
        }

        private static int compareTexts(String a, String b) {
            int shared = Math.min(a.length(), b.length());
            for (int i = 0; i < shared; i++) {
                if (a.charAt(i) != b.charAt(i)) {
                    return Integer.compare(a.charAt(i), b.charAt(i));
                }
            }
            return Integer.compare(a.length(), b.length());
        }
    }

    /** A step of a path and, behind it, the others. */
    private static final class Step {
        private final String name;
        private final Step next;
        private final int count;

        private Step(String name, Step next) {
            this.name = name;
            this.next = next;
            this.count = next == null ? 1 : next.count + 1;
        }

        /** The steps of a path that a filter may have; null when the name is none. */
        private static Step ofPath(String path) {
            Step later = null;
            int end = path.length();
            for (int i = path.length() - 1; i >= -1; i--) {
                if (i < 0 || path.charAt(i) == '.') {
                    String name = path.substring(i + 1, end);
                    if (name.isEmpty() || beginsWithDollar(name)) {
                        return null;
                    }
                    later = new Step(name, later);
                    if (later.count > MAX_STEPS) {
                        return null;
                    }
                    end = i;
                }
            }
            return later;
        }
    }

    /**
     * A part of a filter: a filter itself (its parts are its elements), an element of one (its
     * parts are filters or conditions), or a condition (its parts are those that $elem and $not
     * have). It keeps the value that it was made of; negated turns the answer of its sign round.
     */
    private static final class Rule {
        private static final int UNKNOWN = 0;
        private static final int FILTER = 1;
        private static final int AND = 2;
        private static final int OR = 3;
        private static final int PATH = 4;
        private static final int EQ = 5;
        private static final int IN = 6;
        private static final int LT = 7;
        private static final int LTE = 8;
        private static final int GT = 9;
        private static final int GTE = 10;
        private static final int EXISTS = 11;
        private static final int SIZE = 12;
        private static final int ELEM_CONDITIONS = 13;
        private static final int ELEM_FILTER = 14;
        private static final int NOT = 15;

        private final int sign;
        private final boolean negated;
        private final Value value;
        private final Step path;
        private Rule first;
        private Rule last;
        private Rule next;

        private Rule(int sign, boolean negated, Value value, Step path) {
            this.sign = sign;
            this.negated = negated;
            this.value = value;
            this.path = path;
        }

        private void add(Rule part) {
            if (last == null) {
                first = part;
            } else {
                last.next = part;
            }
            last = part;
        }
    }

    /** A filter that has no fault, and what many() tells of it. */
    private static final class Filter {
        private static final int RULES = 1;
        private static final int PATHS = 2;
        private static final int STEPS = 3;

        private final Rule clauses;
        private final int[] counts;

        private Filter(Value document) {
            clauses = new Rule(Rule.FILTER, false, document, null);
            counts = new int[] {document.count, 0, 0, 0};
        }
    }

    /** Makes a filter of a document, up to its first fault. */
    private static final class FilterMaker {
        private static final int WRONG_NAME = 1;
        private static final int WRONG_ROW = 2;
        private static final int WRONG_PATH = 3;
        private static final int WRONG_VALUE = 4;
        private static final int TOO_MANY = 5;

        private final Filter made;
        private int fault;
        private int faultPlace = NO_PLACE;

        private FilterMaker(Value document) {
            made = new Filter(document);
        }

        private void make() {
            addClauses(made.clauses, 1);
        }

        private void addClauses(Rule filter, int depth) {
            if (depth > MAX_DEPTH) {
                return;
            }
            for (Value e = filter.value.first; e != null && fault == 0; e = e.next) {
                if (beginsWithDollar(e.name)) {
                    addJoin(filter, e, depth);
                } else {
                    addPath(filter, e, depth);
                }
            }
        }

        private void addJoin(Rule filter, Value element, int depth) {
            int sign = joinSign(element.name);
            if (sign == Rule.UNKNOWN) {
                refuse(WRONG_NAME, element);
            } else if (element.kind != Kind.ROW || element.count == 0) {
                refuse(WRONG_ROW, element);
            } else if (mayCount(1, element)) {
                Rule join = new Rule(sign, element.name.equals("$nor"), element, null);
                filter.add(join);
                addJoined(join, depth + 2);
            }
        }

        private void addJoined(Rule join, int depth) {
            for (Value item = join.value.first; item != null && fault == 0; item = item.next) {
                if (item.kind == Kind.DOCUMENT) {
                    Rule part = new Rule(Rule.FILTER, false, item, null);
                    join.add(part);
                    addClauses(part, depth);
                } else {
                    refuse(WRONG_ROW, item);
                }
            }
        }

        private void addPath(Rule filter, Value element, int depth) {
            Step path = Step.ofPath(element.name);
            boolean alone = !element.isConditions();
            if (path == null) {
                refuse(WRONG_PATH, element);
            } else if (mayCount(alone ? 2 : 1, element)) {
                made.counts[Filter.PATHS]++;
                made.counts[Filter.STEPS] += path.count;
                Rule clause = new Rule(Rule.PATH, false, element, path);
                filter.add(clause);
                if (alone) {
                    clause.add(new Rule(Rule.EQ, false, element, null));
                } else {
                    addConditions(clause, depth + 1);
                }
            }
        }

        private void addConditions(Rule holder, int depth) {
            if (depth > MAX_DEPTH) {
                return;
            }
            for (Value e = holder.value.first; e != null && fault == 0; e = e.next) {
                addCondition(holder, e, depth);
            }
        }

        private void addCondition(Rule holder, Value element, int depth) {
            int sign = conditionSign(element);
            if (sign == Rule.UNKNOWN) {
                refuse(WRONG_NAME, element);
            } else if (!isValueFor(sign, element)) {
                refuse(WRONG_VALUE, element);
            } else if (mayCount(1, element)) {
                Rule condition = new Rule(sign, isNegated(element), element, null);
                holder.add(condition);
                if (sign == Rule.NOT || sign == Rule.ELEM_CONDITIONS) {
                    addConditions(condition, depth + 1);
                } else if (sign == Rule.ELEM_FILTER) {
                    addClauses(condition, depth + 1);
                }
            }
        }

        private boolean mayCount(int rules, Value element) {
            made.counts[Filter.RULES] += rules;
            if (made.counts[Filter.RULES] > MAX_RULES) {
                refuse(TOO_MANY, element);
                return false;
            }
            return true;
        }

        private void refuse(int reason, Value element) {
            fault = reason;
            faultPlace = element.place;
        }

        private static int joinSign(String name) {
            if (name.equals("$and")) {
                return Rule.AND;
            }
            return name.equals("$or") || name.equals("$nor") ? Rule.OR : Rule.UNKNOWN;
        }

        private static int conditionSign(Value element) {
            String name = element.name;
            if (name.equals("$eq") || name.equals("$ne")) {
                return Rule.EQ;
            }
            if (name.equals("$in") || name.equals("$nin")) {
                return Rule.IN;
            }
            if (name.equals("$exists")) {
                return Rule.EXISTS;
            }
            if (name.equals("$size")) {
                return Rule.SIZE;
            }
            if (name.equals("$elem")) {
                return elemSign(element);
            }
            return name.equals("$not") ? Rule.NOT : orderSign(element);
        }

        private static int orderSign(Value element) {
            String name = element.name;
            boolean withNothing = element.kind == Kind.NOTHING;
            if (name.equals("$lt")) {
                return Rule.LT;
            }
            if (name.equals("$gt")) {
                return Rule.GT;
            }
            if (name.equals("$lte")) {
                return withNothing ? Rule.EQ : Rule.LTE;
            }
            if (name.equals("$gte")) {
                return withNothing ? Rule.EQ : Rule.GTE;
            }
            return Rule.UNKNOWN;
        }

        private static int elemSign(Value value) {
            boolean joins = value.first != null && joinSign(value.first.name) != Rule.UNKNOWN;
            return value.isConditions() && !joins ? Rule.ELEM_CONDITIONS : Rule.ELEM_FILTER;
        }

        private static boolean isNegated(Value element) {
            String name = element.name;
            if (name.equals("$exists")) {
                return element.number == 0;
            }
            return name.equals("$ne") || name.equals("$nin") || name.equals("$not");
        }

        private static boolean isValueFor(int sign, Value value) {
            switch (sign) {
                case Rule.IN:
                    return value.kind == Kind.ROW;
                case Rule.EXISTS:
                    return value.kind == Kind.TRUTH;
                case Rule.SIZE:
                    return Kind.classOf(value.kind) == Kind.NUMBER_CLASS && value.number >= 0;
                case Rule.ELEM_CONDITIONS:
                case Rule.ELEM_FILTER:
                    return value.kind == Kind.DOCUMENT;
                case Rule.NOT:
                    return value.isConditions();
                default:
                    return true;
            }
        }
    }

    /**
     * Asks filters about documents. Every condition says that some leaf passes, or that none
     * does, so the leaves are tried as they are met and never kept.
     */
    private static final class Matcher {
        // A filter goes down 15 times at most, and a document 16 times.
        private static final int MAX_LEVELS = 40;

        private static final int NO_LEAF = 0;
        private static final int NONE_PASSES = 1;
        private static final int SOME_PASSES = 2;

        private final Value missing = new Value(Kind.MISSING, NO_PLACE, "");

        /** The number of the first element that does not hold; -1 when all do. */
        private int firstFailing(Rule filter, Value document, int level) {
            int number = 0;
            for (Rule clause = filter.first; clause != null; clause = clause.next) {
                if (!clauseHolds(clause, document, level)) {
                    return number;
                }
                number++;
            }
            return -1;
        }

        private boolean clauseHolds(Rule clause, Value document, int level) {
            if (level > MAX_LEVELS) {
                return false;
            }
            switch (clause.sign) {
                case Rule.AND:
                    return !somePartIs(false, clause, document, level);
                case Rule.OR:
                    return somePartIs(true, clause, document, level) != clause.negated;
                default:
                    return conditionsHold(clause, clause.path, document, level);
            }
        }

        private boolean somePartIs(boolean wanted, Rule join, Value document, int level) {
            for (Rule part = join.first; part != null; part = part.next) {
                if ((firstFailing(part, document, level + 1) < 0) == wanted) {
                    return true;
                }
            }
            return false;
        }

        /** Each condition on its own, by the leaves of a path (null: the value itself). */
        private boolean conditionsHold(Rule holder, Step path, Value value, int level) {
            if (level > MAX_LEVELS) {
                return false;
            }
            for (Rule condition = holder.first; condition != null; condition = condition.next) {
                if (!conditionHolds(condition, path, value, level)) {
                    return false;
                }
            }
            return true;
        }

        private boolean conditionHolds(Rule condition, Step path, Value value, int level) {
            boolean answer;
            if (condition.sign == Rule.NOT) {
                answer = conditionsHold(condition, path, value, level + 1);
            } else {
                int met = tryLeaves(condition, path, value, level);
                answer = (met == NO_LEAF ? tryLeaf(condition, missing, level) : met) == SOME_PASSES;
            }
            return answer != condition.negated;
        }

        private int tryLeaves(Rule condition, Step step, Value value, int level) {
            if (level > MAX_LEVELS) {
                return NO_LEAF;
            }
            if (step == null) {
                return tryLeaf(condition, value, level);
            }
            if (value.kind == Kind.ROW) {
                return tryLeavesOfRow(condition, step, value, level);
            }
            Value element = value.named(step.name);
            if (element == null) {
                return tryLeaf(condition, missing, level);
            }
            return tryLeaves(condition, step.next, element, level + 1);
        }

        /** Items are named by their decimal digits, so a step finds the item of its number. */
        private int tryLeavesOfRow(Rule condition, Step step, Value row, int level) {
            Value numbered = row.named(step.name);
            int met = NO_LEAF;
            if (numbered != null) {
                met = tryLeaves(condition, step.next, numbered, level + 1);
            }
            for (Value item = row.first; item != null && met != SOME_PASSES; item = item.next) {
                if (item.kind == Kind.DOCUMENT) {
                    met = Math.max(met, tryLeaves(condition, step, item, level + 1));
                }
            }
            return met;
        }

        private int tryLeaf(Rule condition, Value leaf, int level) {
            return passes(condition, leaf, level) ? SOME_PASSES : NONE_PASSES;
        }

        private boolean passes(Rule condition, Value leaf, int level) {
            switch (condition.sign) {
                case Rule.IN:
                    return passesSome(condition.value, leaf);
                case Rule.EXISTS:
                    return leaf.kind != Kind.MISSING;
                case Rule.SIZE:
                    return leaf.kind == Kind.ROW && leaf.count == condition.value.number;
                case Rule.ELEM_CONDITIONS:
                case Rule.ELEM_FILTER:
                    return leaf.kind == Kind.ROW && hasItemFor(condition, leaf, level);
                default:
                    return passesWithItems(condition.sign, condition.value, leaf);
            }
        }

        private boolean hasItemFor(Rule elem, Value row, int level) {
            for (Value item = row.first; item != null; item = item.next) {
                if (elem.sign == Rule.ELEM_CONDITIONS) {
                    if (conditionsHold(elem, null, item, level + 1)) {
                        return true;
                    }
                } else if (item.kind == Kind.DOCUMENT && firstFailing(elem, item, level + 1) < 0) {
                    return true;
                }
            }
            return false;
        }

        private boolean passesSome(Value row, Value leaf) {
            for (Value item = row.first; item != null; item = item.next) {
                if (passesWithItems(Rule.EQ, item, leaf)) {
                    return true;
                }
            }
            return false;
        }

        private boolean passesWithItems(int sign, Value wanted, Value leaf) {
            if (compares(sign, leaf, wanted)) {
                return true;
            }
            if (leaf.kind != Kind.ROW) {
                return false;
            }
            for (Value item = leaf.first; item != null; item = item.next) {
                if (compares(sign, item, wanted)) {
                    return true;
                }
            }
            return false;
        }

        private boolean compares(int sign, Value value, Value wanted) {
            if (Kind.classOf(value.kind) != Kind.classOf(wanted.kind)) {
                return sign == Rule.EQ && value.kind == Kind.MISSING && wanted.kind == Kind.NOTHING;
            }
            int order = Order.compare(value, wanted, 1);
            switch (sign) {
                case Rule.EQ:
                    return order == 0;
                case Rule.LT:
                    return order < 0;
                case Rule.LTE:
                    return order <= 0;
                case Rule.GT:
                    return order > 0;
                default:
                    return order >= 0;
            }
        }
    }
}
