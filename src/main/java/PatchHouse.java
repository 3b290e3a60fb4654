import java.util.NoSuchElementException;

/** A house of typed documents, which patches make, fill, copy, compare and take. */
public final class PatchHouse {
    public static final int NONE = -1;

    private static final int LOAD_IS_FULL = 9;
    private static final int MOST_FUEL = 20000;

    private final Ledger ledger;
    private final Form form;
    private final Patches patches;
    private final Ops ops;
    private final Engine engine;
    private int lastKind;
    private int lastNumber;
    private int lastFuel;

    public PatchHouse() {
        ledger = new Ledger();
        form = new Form(ledger);
        patches = new Patches();
        ops = new Ops(patches.code, ledger);
        engine = new Engine(patches, ops, ledger);
    }

    public int feed(int a, int b, int c, int d, int e) {
        if (form.tapeLength + 20 > Form.MOST_BYTES) {
            return NONE;
        }
        form.append(a);
        form.append(b);
        form.append(c);
        form.append(d);
        form.append(e);
        return form.tapeLength;
    }

    public int end(int n) {
        if (n < 0 || n > form.tapeLength) {
            return NONE;
        }
        form.tapeLength = n;
        return n;
    }

    public int patch(int p) {
        if (p < 0 || p >= Patches.COUNT) {
            return NONE;
        }
        int length = form.tapeLength;
        form.tapeLength = 0;
        return patches.take(p, form.tape, length);
    }

    public int load(int s) {
        if (s < 0 || s >= Ops.SLOTS) {
            return NONE;
        }
        int length = form.tapeLength;
        form.tapeLength = 0;
        if (ledger.full) {
            return LOAD_IS_FULL;
        }
        ledger.settle();
        Thing thing = form.readTape(length);
        if (ledger.stop == Ledger.FULL) {
            return LOAD_IS_FULL;
        }
        if (ledger.stop == Ledger.FAULT) {
            return ledger.kind;
        }
        ops.slots[s] = thing;
        return 0;
    }

    public int save(int s) {
        if (s < 0 || s >= Ops.SLOTS) {
            return NONE;
        }
        return form.writeOut(ops.slots[s]);
    }

    public int out(int i) throws NoSuchElementException {
        if (i < 0 || i >= form.outLength) {
            throw new NoSuchElementException("no such byte of OUT");
        }
        return form.out[i] & 255;
    }

    public int run(int p, int fuel) {
        if (p < 0 || p >= Patches.COUNT || fuel < 0 || fuel > MOST_FUEL) {
            return NONE;
        }
        ledger.settle();
        ledger.fuel = fuel;
        int answer = ledger.full ? Ledger.FULL : engine.perform(p);
        lastKind = ledger.kind;
        lastNumber = ledger.number;
        lastFuel = ledger.fuel;
        return answer;
    }

    public int look(int what) {
        switch (what) {
            case 0:
                return lastKind;
            case 1:
                return lastNumber;
            case 2:
                return lastFuel;
            case 3:
                return ledger.made;
            case 4:
                return form.tapeLength;
            case 5:
                return form.outLength;
            case 6:
                return ledger.full ? 1 : 0;
            default:
                return what >= 7 && what < 7 + Patches.COUNT ? patches.lengths[what - 7] : NONE;
        }
    }

    public int number(int n) throws NoSuchElementException {
        if (n < 0 || n >= Ops.NUMBERS) {
            throw new NoSuchElementException("no such NUMBER");
        }
        return ops.numbers[n];
    }

    public long real(int r) throws NoSuchElementException {
        if (r < 0 || r >= Ops.REALS) {
            throw new NoSuchElementException("no such REAL");
        }
        return ops.reals[r];
    }

    public int slot(int s, int what) {
        if (s < 0 || s >= Ops.SLOTS) {
            return NONE;
        }
        Thing thing = ops.slots[s];
        if (what == 0) {
            return thing == null ? 0 : thing.kind();
        }
        if (what == 1) {
            return thing == null ? NONE : thing.size();
        }
        return what == 2 && thing instanceof Shelf shelf ? shelf.boxClass : NONE;
    }

    public long member(int s, int i) throws NoSuchElementException {
        Thing thing = s < 0 || s >= Ops.SLOTS ? null : ops.slots[s];
        if (thing == null || i < 0 || i >= thing.tellable()) {
            throw new NoSuchElementException("no such member");
        }
        return thing.told(i);
    }

    public int same(int s, int t) {
        if (s < 0 || s >= Ops.SLOTS || t < 0 || t >= Ops.SLOTS) {
            return NONE;
        }
        return ops.slots[s] == ops.slots[t] ? 1 : 0;
    }

    /** What is MADE and burnt, and why what is going on has to stop. */
    private static final class Ledger {
        static final int MOST_MADE = 40000;
        static final int FAULT_COST = 8;

        // How a run stands; those above 0 are what run() answers.
        static final int GOING = 0;
        static final int FAULT = 1;
        static final int NO_FUEL = 2;
        static final int FULL = 3;

        static final int EMPTY = 1;
        static final int BOUNDS = 2;
        static final int NEGATIVE = 3;
        static final int KIND = 4;
        static final int MEMBER = 5;
        static final int DIVISION = 6;
        static final int TOLD = 7;
        static final int DEEP = 8;

        int made;
        boolean full;
        int fuel;
        int stop;
        int kind;
        int number;

        void settle() {
            stop = GOING;
            kind = 0;
            number = 0;
        }

        boolean stopped() {
            return stop != GOING;
        }

        /** Counts what is about to be made; false, and FULL, if it would be too much. */
        boolean make(long cost) {
            if (made + cost > MOST_MADE) {
                full = true;
                stop = FULL;
                return false;
            }
            made += (int) cost;
            return true;
        }

        /** Takes FUEL; false, and the run is at its end, if there is too little. */
        boolean burn(long cost) {
            if (cost > fuel) {
                fuel = 0;
                stop = NO_FUEL;
                return false;
            }
            fuel -= (int) cost;
            return true;
        }

        void fault(int kindOfFault) {
            if (make(FAULT_COST)) {
                handOn(kindOfFault, 0);
            }
        }

        void faultTold(int numberOfFault) {
            if (make(FAULT_COST)) {
                handOn(TOLD, numberOfFault);
            }
        }

        /** A FAULT that has been counted already goes on outwards. */
        void handOn(int kindOfFault, int numberOfFault) {
            stop = FAULT;
            kind = kindOfFault;
            number = numberOfFault;
        }
    }

    /** All that is not NOTHING; NOTHING is null. */
    private abstract static class Thing {
        static final int INTS = 4;
        static final int FLOATS = 6;
        static final int DOUBLES = 7;
        static final int BITS = 8;
        static final int GRID = 9;
        static final int BOX = 10;
        static final int PART = 11;
        static final int TROUBLE = 16;

        abstract int kind();

        /** How many places told() has an answer for. */
        abstract int tellable();

        abstract long told(int i);

        int size() {
            return NONE;
        }

        /** A CLONE, or null of what has none. */
        Thing twin() {
            return null;
        }

        /** Takes the members of a CLONE of this one again. */
        void putBack(Thing twin) {
        }
    }

    /** A ROW: each member is held as the number or the bits that are told of it. */
    private static final class Row extends Thing {
        final int width;
        final long[] members;

        Row(int width, int size) {
            this.width = width;
            members = new long[size];
        }

        int kind() {
            return width;
        }

        int tellable() {
            return members.length;
        }

        long told(int i) {
            return i >= 0 && i < members.length ? members[i] : NONE;
        }

        int size() {
            return members.length;
        }

        Thing twin() {
            Row twin = new Row(width, members.length);
            System.arraycopy(members, 0, twin.members, 0, members.length);
            return twin;
        }

        void putBack(Thing twin) {
            if (twin instanceof Row row && row.members.length == members.length) {
                System.arraycopy(row.members, 0, members, 0, members.length);
            }
        }

        /** Keeps what this WIDTH has room for. */
        void put(int i, long value) {
            if (i >= 0 && i < members.length) {
                members[i] = narrowed(width, value);
            }
        }

        private static long narrowed(int width, long value) {
            switch (width) {
                case 1:
                    return (byte) value;
                case 2:
                    return (char) value;
                case 3:
                    return (short) value;
                case INTS:
                    return (int) value;
                case FLOATS:
                    return Real.plainFloat((int) value);
                case DOUBLES:
                    return Real.plain(value);
                case BITS:
                    return value & 1;
                default:
                    return value;
            }
        }
    }

    /** A GRID (its boxClass is NONE) or a BOX. */
    private static final class Shelf extends Thing {
        final int boxClass;
        final Thing[] members;

        Shelf(int boxClass, int size) {
            this.boxClass = boxClass;
            members = new Thing[size];
        }

        int kind() {
            return boxClass == NONE ? GRID : BOX;
        }

        int tellable() {
            return members.length;
        }

        long told(int i) {
            Thing member = i >= 0 && i < members.length ? members[i] : null;
            if (member instanceof Part part) {
                return part.partClass;
            }
            return member == null ? NONE : member.size();
        }

        int size() {
            return members.length;
        }

        Thing twin() {
            Shelf twin = new Shelf(boxClass, members.length);
            twin.putBack(this);
            return twin;
        }

        void putBack(Thing twin) {
            if (twin instanceof Shelf shelf && shelf.members.length == members.length) {
                for (int i = 0; i < members.length; i++) {
                    members[i] = shelf.members[i];
                }
            }
        }

        /** The FAULT that it is to put this here, or 0. */
        int refusal(Thing thing) {
            if (thing == null) {
                return 0;
            }
            if (boxClass == NONE) {
                return thing.kind() == INTS ? 0 : Ledger.KIND;
            }
            if (thing instanceof Part part) {
                return Part.isBelow(part.partClass, boxClass) ? 0 : Ledger.MEMBER;
            }
            return Ledger.KIND;
        }

        /** Copies until a member does not go here; whether all did. */
        boolean takeFrom(Shelf from, int first, int to, int count) {
            if (from == this && first < to) {
                // From behind, so that what overlaps is copied as it was.
                for (int k = count - 1; k >= 0; k--) {
                    members[to + k] = members[first + k];
                }
                return true;
            }
            for (int k = 0; k < count; k++) {
                Thing member = from.members[first + k];
                if (refusal(member) != 0) {
                    return false;
                }
                members[to + k] = member;
            }
            return true;
        }
    }

    private static final class Part extends Thing {
        static final int BOLT = 1;
        static final int SCREW = 2;
        static final int PLATE = 3;
        static final int CASE = 4;
        static final int CLASSES = 5;
        static final int COST = 4;
        static final int DEEPEST = 30;
        static final long QUARTER = 0x3FD0000000000000L;

        final int partClass;
        int count;
        long weight;
        int price;
        Shelf inner;

        Part(int partClass) {
            this.partClass = partClass;
        }

        int kind() {
            return PART + partClass;
        }

        int tellable() {
            return isPriced() ? 3 : 2;
        }

        long told(int i) {
            return i == 0 ? count : i == 1 ? weight : price;
        }

        static boolean isBelow(int low, int high) {
            return high == 0 || low == high
                || high == BOLT && low == SCREW || high == PLATE && low == CASE;
        }

        boolean isWeighed() {
            return partClass != 0;
        }

        boolean isPriced() {
            return isBelow(partClass, PLATE);
        }

        /** Whether it has COUNT, WEIGHT, PRICE, INNER (0 to 3). */
        boolean has(int field) {
            return field < 2 || (field == 2 ? isPriced() : partClass == CASE);
        }

        /** Whether question h of OP 29 can be asked of it. */
        boolean answers(int h) {
            switch (h) {
                case 1:
                    return isWeighed();
                case 2:
                    return isPriced();
                case 3:
                    return isBelow(partClass, BOLT);
                case 4:
                    return isBelow(partClass, PLATE);
                default:
                    return true;
            }
        }

        /** What it weighs; no answer counts once the ledger has stopped. */
        long weighs(Ledger ledger, int depth) {
            if (depth > DEEPEST) {
                ledger.fault(Ledger.DEEP);
                return 0;
            }
            if (!ledger.burn(1)) {
                return 0;
            }
            if (partClass == SCREW) {
                return Real.sum(weight, Real.product(QUARTER, Real.ofInt(count)));
            }
            if (partClass != CASE) {
                return weight;
            }
            if (inner == null) {
                ledger.fault(Ledger.EMPTY);
                return 0;
            }
            long total = weight;
            for (int i = 0; i < inner.members.length && !ledger.stopped(); i++) {
                if (inner.members[i] instanceof Part part) {
                    total = Real.sum(total, part.weighs(ledger, depth + 1));
                } else {
                    ledger.fault(Ledger.EMPTY);
                }
            }
            return total;
        }

        /** Its own LOAD of n, of what it weighs. */
        long loadOf(int n, long weighs) {
            long times = Real.ofInt(n);
            long total = Real.product(times, weighs);
            if (isPriced()) {
                total = Real.sum(total, Real.product(times, Real.ofInt(price)));
            }
            return partClass == CASE ? Real.sum(total, Real.ONE) : total;
        }

        int label() {
            switch (partClass) {
                case BOLT:
                    return 12;
                case SCREW:
                    return 123;
                case CASE:
                    return 51;
                default:
                    return 1;
            }
        }
    }

    private static final class Trouble extends Thing {
        static final int COST = 4;

        final int number;

        Trouble(int number) {
            this.number = number;
        }

        int kind() {
            return TROUBLE;
        }

        int tellable() {
            return 1;
        }

        long told(int i) {
            return number;
        }
    }

    /**
     * Reals as the 64 bits of IEEE 754, reckoned with whole numbers alone: the language that the
     * program keeps to has no way from a double to its bits, and none of its doubles may be NaN.
     */
    private static final class Real {
        static final long SIGN = 1L << 63;
        static final long INFINITE = 0x7FF0000000000000L;
        static final long NAN = 0x7FF8000000000000L;
        static final long ONE = 0x3FF0000000000000L;
        static final long HALF = 0x3FE0000000000000L;
        static final int FLOAT_INFINITE = 0x7F800000;
        static final int FLOAT_NAN = 0x7FC00000;

        // Bits behind the point, and what is added to the exponent.
        static final int PLACES = 52;
        static final int BIAS = 1023;
        static final int FLOAT_PLACES = 23;
        static final int FLOAT_BIAS = 127;

        static final long HIDDEN = 1L << PLACES;
        static final long TOP = 1L << 62;
        static final long LOW_27 = (1L << 27) - 1;
        static final long LOW_44 = (1L << 44) - 1;

        static long size(long x) {
            return x & ~SIGN;
        }

        static boolean isNan(long x) {
            return (x & ~SIGN) > INFINITE;
        }

        // plain() and exponent() stand at the end of the longest ways through the calls, of which no
        // one goes more than eight deep: they call nothing.

        /** The one NaN in place of all of them. */
        static long plain(long x) {
            return (x & ~SIGN) > INFINITE ? NAN : x;
        }

        static int plainFloat(int bits) {
            return (bits & 0x7FFFFFFF) > FLOAT_INFINITE ? FLOAT_NAN : bits;
        }

        private static int field(long x) {
            return (int) (x >>> PLACES) & 0x7FF;
        }

        /** A finite real's size is mantissa times 2 to the exponent. */
        private static long mantissa(long x) {
            long places = x & (HIDDEN - 1);
            return (x & INFINITE) == 0 ? places : places | HIDDEN;
        }

        private static int exponent(long x) {
            int field = (int) (x >>> PLACES) & 0x7FF;
            return (field == 0 ? 1 : field) - BIAS - PLACES;
        }

        /** How far a mantissa that is not 0 must go left to have its highest bit where HIDDEN is. */
        private static int gap(long mantissa) {
            int gap = 0;
            while (gap < PLACES && mantissa << gap < HIDDEN) {
                gap++;
            }
            return gap;
        }

        /**
         * The bits, without a sign, of the nearest real (or FLOAT) to mantissa times 2 to the
         * exponent. The mantissa is not below 0; where bits behind it were lost, its lowest one is 1.
         */
        private static long rounded(long mantissa, int exponent, int places, int bias) {
            if (mantissa == 0) {
                return 0;
            }
            long whole = mantissa;
            int field = exponent + 62 + bias;
            for (int i = 0; i < 62 && whole < TOP; i++) {
                whole <<= 1;
                field--;
            }
            if (field > 2 * bias) {
                return (2L * bias + 1) << places;
            }
            int drop = 62 - places;
            if (field < 1) {
                drop += 1 - field;
                field = 1;
            }
            if (drop > 63) {
                return 0;
            }
            long kept = whole >>> drop;
            long lost = whole & ((1L << drop) - 1);
            long half = 1L << (drop - 1);
            if (lost > half || lost == half && (kept & 1) == 1) {
                kept++;
            }
            // The highest bit of what is kept counts the exponent up by one, and so does a carry.
            return ((long) (field - 1) << places) + kept;
        }

        static long ofInt(int n) {
            return (n < 0 ? SIGN : 0) | rounded(Math.abs((long) n), 0, PLACES, BIAS);
        }

        /** Towards 0; the greatest or the least int for what is beyond, 0 for NaN. */
        static int toInt(long x) {
            int field = field(x);
            if (isNan(x) || field < BIAS) {
                return 0;
            }
            if (field >= BIAS + 31) {
                return x < 0 ? 0x80000000 : 0x7FFFFFFF;
            }
            int whole = (int) (mantissa(x) >>> (BIAS + PLACES - field));
            return x < 0 ? -whole : whole;
        }

        static int toFloat(long x) {
            if (isNan(x)) {
                return FLOAT_NAN;
            }
            int sign = x < 0 ? 0x80000000 : 0;
            if (size(x) == INFINITE) {
                return sign | FLOAT_INFINITE;
            }
            return sign | (int) rounded(mantissa(x), exponent(x), FLOAT_PLACES, FLOAT_BIAS);
        }

        static long ofFloat(int bits) {
            long sign = bits < 0 ? SIGN : 0;
            int field = (bits >>> FLOAT_PLACES) & 255;
            long places = bits & ((1L << FLOAT_PLACES) - 1);
            if (field == 255) {
                return places == 0 ? sign | INFINITE : NAN;
            }
            long mantissa = field == 0 ? places : places | 1L << FLOAT_PLACES;
            int exponent = Math.max(field, 1) - FLOAT_BIAS - FLOAT_PLACES;
            return sign | rounded(mantissa, exponent, PLACES, BIAS);
        }

        static long sum(long x, long y) {
            if (isNan(x) || isNan(y)) {
                return NAN;
            }
            boolean alike = (x ^ y) >= 0;
            long big = size(x) >= size(y) ? x : y;
            long small = size(x) >= size(y) ? y : x;
            if (size(big) == INFINITE) {
                return size(small) == INFINITE && !alike ? NAN : big;
            }
            // Nine places more: what goes lost below them cannot change where the sum is rounded.
            long more = movedRight(mantissa(small) << 9, exponent(big) - exponent(small));
            long total = (mantissa(big) << 9) + (alike ? more : -more);
            long sign = total == 0 ? x & y & SIGN : big & SIGN;
            return sign | rounded(total, exponent(big) - 9, PLACES, BIAS);
        }

        private static long movedRight(long mantissa, int places) {
            if (places > 62) {
                return mantissa == 0 ? 0 : 1;
            }
            long lost = mantissa & ((1L << places) - 1);
            return mantissa >>> places | (lost == 0 ? 0 : 1);
        }

        static long turned(long x) {
            return isNan(x) ? NAN : x ^ SIGN;
        }

        static long product(long x, long y) {
            long sign = (x ^ y) & SIGN;
            if (isNan(x) || isNan(y)) {
                return NAN;
            }
            boolean zero = size(x) == 0 || size(y) == 0;
            if (size(x) == INFINITE || size(y) == INFINITE) {
                return zero ? NAN : sign | INFINITE;
            }
            if (zero) {
                return sign;
            }
            int gapX = gap(mantissa(x));
            int gapY = gap(mantissa(y));
            long a = mantissa(x) << gapX;
            long b = mantissa(y) << gapY;
            long low = (a & LOW_27) * (b & LOW_27);
            long middle = (a >>> 27) * (b & LOW_27) + (a & LOW_27) * (b >>> 27) + (low >>> 27);
            long high = (a >>> 27) * (b >>> 27) + (middle >>> 27);
            long rest = (middle & LOW_27) << 27 | low & LOW_27;
            long mantissa = high << 10 | rest >>> 44 | ((rest & LOW_44) == 0 ? 0 : 1);
            int exponent = exponent(x) - gapX + exponent(y) - gapY + 44;
            return sign | rounded(mantissa, exponent, PLACES, BIAS);
        }

        static long quotient(long x, long y) {
            long sign = (x ^ y) & SIGN;
            if (isNan(x) || isNan(y)) {
                return NAN;
            }
            if (size(x) == INFINITE || size(y) == 0) {
                return size(y) == INFINITE || size(x) == 0 ? NAN : sign | INFINITE;
            }
            if (size(y) == INFINITE || size(x) == 0) {
                return sign;
            }
            int gapX = gap(mantissa(x));
            int gapY = gap(mantissa(y));
            long divisor = mantissa(y) << gapY;
            long left = mantissa(x) << gapX;
            if (divisor == 0) {
                return NAN;
            }
            long result = left / divisor;
            left %= divisor;
            for (int i = 0; i < 6; i++) {
                left <<= 10;
                result = result << 10 | left / divisor;
                left %= divisor;
            }
            int exponent = exponent(x) - gapX - exponent(y) + gapY - 60;
            return sign | rounded(left == 0 ? result : result | 1, exponent, PLACES, BIAS);
        }

        /** What is left of division towards 0, with the sign of x. */
        static long remainder(long x, long y) {
            if (isNan(x) || isNan(y) || size(x) == INFINITE || size(y) == 0) {
                return NAN;
            }
            if (size(y) == INFINITE || size(x) < size(y)) {
                return x;
            }
            int gapX = gap(mantissa(x));
            int gapY = gap(mantissa(y));
            long divisor = mantissa(y) << gapY;
            if (divisor == 0) {
                return NAN;
            }
            int exponent = exponent(y) - gapY;
            long left = (mantissa(x) << gapX) % divisor;
            // Ten places at a time are the most that a mantissa has room for.
            for (int places = exponent(x) - gapX - exponent; places > 0; places -= 10) {
                left = (left << Math.min(places, 10)) % divisor;
            }
            return x & SIGN | rounded(left, exponent, PLACES, BIAS);
        }

        static long root(long x) {
            if (isNan(x) || x < 0 && size(x) != 0) {
                return NAN;
            }
            if (size(x) == 0 || x == INFINITE) {
                return x;
            }
            int gap = gap(mantissa(x));
            int exponent = exponent(x) - gap;
            long radicand = mantissa(x) << gap;
            if ((exponent & 1) != 0) {
                radicand <<= 1;
                exponent--;
            }
            // Two bits of the radicand give one of the root: 27 pairs that it has, 28 of zeros.
            long root = 0;
            long left = 0;
            for (int pair = 26; pair >= -28; pair--) {
                left = left << 2 | (pair >= 0 ? radicand >>> (2 * pair) & 3 : 0);
                long trial = root << 2 | 1;
                root <<= 1;
                if (left >= trial) {
                    left -= trial;
                    root |= 1;
                }
            }
            return rounded(root << 1 | (left == 0 ? 0 : 1), exponent / 2 - 29, PLACES, BIAS);
        }

        /** Floor (h 1), ceiling (2), the nearest whole (3). */
        static long whole(int h, long x) {
            int field = field(x);
            long sign = x & SIGN;
            boolean outwards = h == 1 ? sign != 0 : h == 2 && sign == 0;
            if (size(x) == 0 || field >= BIAS + PLACES) {
                return plain(x);
            }
            if (field < BIAS) {
                return outwards || h == 3 && size(x) > HALF ? sign | ONE : sign;
            }
            long unit = 1L << (BIAS + PLACES - field);
            long lost = x & (unit - 1);
            long kept = x - lost;
            if (h == 3) {
                outwards = lost > unit / 2 || lost == unit / 2 && (kept & unit) != 0;
            }
            return outwards && lost != 0 ? kept + unit : kept;
        }

        static long signOf(long x) {
            return isNan(x) ? NAN : size(x) == 0 ? x : x & SIGN | ONE;
        }

        /** How far it is from the size of x to the next greater real. */
        static long step(long x) {
            if (size(x) >= INFINITE) {
                return plain(size(x));
            }
            int field = Math.max(field(x), 1);
            return field > PLACES ? (long) (field - PLACES) << PLACES : 1L << (field - 1);
        }

        static long above(long x) {
            if (isNan(x) || x == INFINITE) {
                return plain(x);
            }
            if (size(x) == 0) {
                return 1;
            }
            return x < 0 ? x - 1 : x + 1;
        }

        /** Orders all but NaN as reals are ordered; of both zeros it is the same. */
        private static long rank(long x) {
            return x < 0 ? SIGN - x : x;
        }

        static long greater(long x, long y) {
            if (isNan(x) || isNan(y)) {
                return NAN;
            }
            // Of the same rank are a real and itself, or two zeros: the sign is that of both.
            return rank(x) == rank(y) ? x & y : rank(x) > rank(y) ? x : y;
        }

        static long lesser(long x, long y) {
            return turned(greater(turned(x), turned(y)));
        }

        static long withSign(long x, long y) {
            if (isNan(x)) {
                return NAN;
            }
            return isNan(y) ? size(x) : size(x) | y & SIGN;
        }

        /** OP 7. */
        static long paired(int h, long x, long y) {
            switch (h) {
                case 0:
                    return sum(x, y);
                case 1:
                    return sum(x, turned(y));
                case 2:
                    return product(x, y);
                case 3:
                    return quotient(x, y);
                case 4:
                    return remainder(x, y);
                case 5:
                    return greater(x, y);
                case 6:
                    return lesser(x, y);
                default:
                    return withSign(x, y);
            }
        }

        /** OP 8. */
        static long changed(int h, long x) {
            switch (h) {
                case 0:
                    return plain(size(x));
                case 1:
                case 2:
                case 3:
                    return whole(h, x);
                case 4:
                    return signOf(x);
                case 5:
                    return root(x);
                case 6:
                    return step(x);
                case 7:
                    return above(x);
                case 8:
                    return turned(x);
                default:
                    return ofFloat(toFloat(x));
            }
        }

        /** OP 9. */
        static boolean holds(int h, long x, long y) {
            if (isNan(x) || isNan(y)) {
                return h == 5;
            }
            switch (h) {
                case 0:
                    return rank(x) < rank(y);
                case 1:
                    return rank(x) <= rank(y);
                case 2:
                    return rank(x) > rank(y);
                case 3:
                    return rank(x) >= rank(y);
                case 4:
                    return rank(x) == rank(y);
                default:
                    return rank(x) != rank(y);
            }
        }
    }

    /** The PATCHES, and what makes bytes one. */
    private static final class Patches {
        static final int COUNT = 16;
        static final int MOST_BYTES = 200;
        static final int MOST_NESTED = 10;

        static final int CHOICE = 30;
        static final int ROUNDS = 31;
        static final int SCOPE = 32;
        static final int CALL = 33;

        private static final int LAST_NUMBER = Ops.NUMBERS - 1;
        private static final int LAST_REAL = Ops.REALS - 1;
        private static final int LAST_SLOT = Ops.SLOTS - 1;
        private static final int LAST_CLASS = Part.CLASSES - 1;

        // Operands with the same bounds in each OP, and the greatest of each.
        private static final String LETTERS = "nrswcp";
        private static final int[] GREATEST = {
            LAST_NUMBER, LAST_REAL, LAST_SLOT, Thing.BITS, LAST_CLASS, MOST_BYTES,
        };

        final byte[] code = new byte[COUNT * MOST_BYTES];
        final int[] lengths = new int[COUNT];

        /** PATCH p is the tape: 0; or 1 and the place of the first byte with which it is none. */
        int take(int p, byte[] tape, int length) {
            if (length > MOST_BYTES) {
                return 1 + MOST_BYTES;
            }
            int wrong = firstWrong(tape, 0, length, 0);
            if (wrong != NONE) {
                return 1 + wrong;
            }
            System.arraycopy(tape, 0, code, p * MOST_BYTES, length);
            lengths[p] = length;
            return 0;
        }

        /**
         * The operands of an OP, a letter each: n NUMBER, r REAL, s SLOT, w WIDTH, c CLASS, h as
         * told with the OP, v and f what the first operand says, p how many bytes a part has, any
         * byte a point. No OP has none, so that an empty text is no OP.
         */
        static String operands(int op) {
            switch (op) {
                case 1: return "n....";
                case 2: return "nn";
                case 3: return "nnh";
                case 4: return "r........";
                case 5: return "rn";
                case 6: return "nr";
                case 7: return "rrh";
                case 8: return "rh";
                case 9: return "nrrh";
                case 10: return "ss";
                case 11: return "s";
                case 12: return "swn";
                case 13: return "snn";
                case 14: return "scn";
                case 15: return "sc";
                case 16: return "sn";
                case 17: return "ns";
                case 18: return "nsh";
                case 19: return "wvsn";
                case 20: return "wsnv";
                case 21: return "snsnn";
                case 22: return "ss";
                case 23: return "ssn";
                case 24: return "sns";
                case 25: return "ssn";
                case 26: return "sns";
                case 27: return "hfs";
                case 28: return "hsf";
                case 29: return "hrsn";
                case CHOICE: return "npp";
                case ROUNDS: return "np";
                case SCOPE: return "...ppp";
                case CALL: return "h";
                case 34: return "s";
                default: return "";
            }
        }

        /** How many values h has, from 0 on. */
        private static int choices(int op) {
            switch (op) {
                case 3: return 7;
                case 7: return 8;
                case 8: return 10;
                case 9: return 6;
                case 18: return 20;
                case 27: return 4;
                case 28: return 4;
                case 29: return 6;
                default: return COUNT;
            }
        }

        /** The greatest value of an operand; first is the OP's first operand. */
        private static int greatest(char operand, int op, int first) {
            if (operand == 'h') {
                return choices(op) - 1;
            }
            if (operand == 'v') {
                return first == Thing.FLOATS || first == Thing.DOUBLES ? LAST_REAL : LAST_NUMBER;
            }
            if (operand == 'f') {
                return first == 1 ? LAST_REAL : first == 3 ? LAST_SLOT : LAST_NUMBER;
            }
            int letter = LETTERS.indexOf(operand);
            return letter >= 0 && letter < GREATEST.length ? GREATEST[letter] : 255;
        }

        /** How many parts stand behind an OP. */
        private static int parts(int op) {
            return op == CHOICE ? 2 : op == ROUNDS ? 1 : op == SCOPE ? 3 : 0;
        }

        /** The place of the first byte with which those from one to another are no OPS, or NONE. */
        private static int firstWrong(byte[] tape, int from, int to, int nested) {
            int place = from;
            for (int ops = 0; ops < MOST_BYTES && place < to; ops++) {
                int op = tape[place] & 255;
                String operands = operands(op);
                int parts = parts(op);
                int behind = place + 1 + operands.length();
                if (operands.isEmpty() || behind > to || parts > 0 && nested >= MOST_NESTED) {
                    return place;
                }
                int wrong = wrongOperand(tape, place, operands);
                if (wrong == NONE && parts > 0) {
                    wrong = wrongPart(tape, behind, to, parts, nested);
                }
                if (wrong != NONE) {
                    return wrong;
                }
                place = behind;
                for (int part = 0; part < parts; part++) {
                    place += tape[behind - parts + part] & 255;
                }
            }
            return NONE;
        }

        private static int wrongOperand(byte[] tape, int place, String operands) {
            int op = tape[place] & 255;
            int first = tape[place + 1] & 255;
            for (int i = 0; i < operands.length(); i++) {
                char operand = operands.charAt(i);
                int value = tape[place + 1 + i] & 255;
                if (value > greatest(operand, op, first) || operand == 'w' && value == 0) {
                    return place + 1 + i;
                }
            }
            return NONE;
        }

        /** All parts must end in time ahead of what is within any of them. */
        private static int wrongPart(byte[] tape, int behind, int to, int parts, int nested) {
            int sizes = behind - parts;
            int end = behind;
            for (int part = 0; part < parts; part++) {
                end += tape[sizes + part] & 255;
                if (end > to) {
                    return sizes + part;
                }
            }
            int start = behind;
            for (int part = 0; part < parts; part++) {
                int stop = start + (tape[sizes + part] & 255);
                int wrong = firstWrong(tape, start, stop, nested + 1);
                if (wrong != NONE) {
                    return wrong;
                }
                start = stop;
            }
            return NONE;
        }
    }

    /** The TAPE and OUT: values READ from their FORM and WRITTEN in it. */
    private static final class Form {
        static final int MOST_BYTES = 2000;
        static final int DEEPEST = 30;

        final byte[] tape = new byte[MOST_BYTES];
        final byte[] out = new byte[MOST_BYTES];
        int tapeLength;
        int outLength;
        private final Ledger ledger;
        private int place;
        private int end;
        private int outFault;

        Form(Ledger ledger) {
            this.ledger = ledger;
        }

        /** The caller has seen that there is room. */
        void append(int value) {
            for (int shift = 24; shift >= 0 && tapeLength < MOST_BYTES; shift -= 8) {
                tape[tapeLength] = (byte) (value >> shift);
                tapeLength++;
            }
        }

        private static int bytesOf(int width) {
            switch (width) {
                case 1:
                case Thing.BITS:
                    return 1;
                case 2:
                case 3:
                    return 2;
                case 5:
                case Thing.DOUBLES:
                    return 8;
                default:
                    return 4;
            }
        }

        /** What the first bytes of the tape have the FORM of, if the ledger is not stopped then. */
        Thing readTape(int length) {
            place = 0;
            end = length;
            return readThing(1);
        }

        private Thing readThing(int depth) {
            if (depth > DEEPEST) {
                ledger.fault(Ledger.DEEP);
                return null;
            }
            int kind = (int) readBytes(1) & 255;
            if (ledger.stopped() || kind == 0) {
                return null;
            }
            if (kind <= Thing.BITS) {
                return readRow(kind);
            }
            if (kind <= Thing.BOX) {
                return readShelf(kind, depth);
            }
            if (kind < Thing.TROUBLE) {
                return readPart(kind - Thing.PART, depth);
            }
            if (kind == Thing.TROUBLE) {
                return ledger.make(Trouble.COST) ? new Trouble((int) readBytes(4)) : null;
            }
            ledger.fault(Ledger.KIND);
            return null;
        }

        /** That many bytes as one number; 0, and a FAULT, if they are not there. */
        private long readBytes(int count) {
            if (place + count > end) {
                ledger.fault(Ledger.BOUNDS);
                return 0;
            }
            long value = 0;
            for (int i = 0; i < count; i++) {
                value = value << 8 | tape[place + i] & 255;
            }
            place += count;
            return value;
        }

        /** How many members come, and these are counted; NONE if it has stopped at that. */
        private int readSize() {
            int size = (int) readBytes(4);
            if (ledger.stopped()) {
                return NONE;
            }
            if (size < 0) {
                ledger.fault(Ledger.NEGATIVE);
                return NONE;
            }
            return ledger.make(1L + size) ? size : NONE;
        }

        private Thing readRow(int width) {
            int size = readSize();
            if (size < 0) {
                return null;
            }
            Row row = new Row(width, size);
            for (int i = 0; i < size && !ledger.stopped(); i++) {
                row.put(i, readBytes(bytesOf(width)));
            }
            return row;
        }

        private Thing readShelf(int kind, int depth) {
            int boxClass = kind == Thing.BOX ? (int) readBytes(1) : NONE;
            if (ledger.stopped()) {
                return null;
            }
            if (boxClass >= Part.CLASSES) {
                ledger.fault(Ledger.KIND);
                return null;
            }
            int size = readSize();
            if (size < 0) {
                return null;
            }
            Shelf shelf = new Shelf(boxClass, size);
            for (int i = 0; i < size && !ledger.stopped(); i++) {
                Thing member = readThing(depth + 1);
                int refusal = ledger.stopped() ? 0 : shelf.refusal(member);
                if (refusal != 0) {
                    ledger.fault(refusal);
                }
                shelf.members[i] = member;
            }
            return shelf;
        }

        private Thing readPart(int partClass, int depth) {
            if (!ledger.make(Part.COST)) {
                return null;
            }
            Part part = new Part(partClass);
            part.count = (int) readBytes(4);
            if (!ledger.stopped()) {
                part.weight = Real.plain(readBytes(8));
            }
            if (!ledger.stopped() && part.isPriced()) {
                part.price = (int) readBytes(4);
            }
            if (!ledger.stopped() && partClass == Part.CASE) {
                readInner(part, depth);
            }
            return part;
        }

        private void readInner(Part part, int depth) {
            Thing inner = readThing(depth + 1);
            if (ledger.stopped() || inner == null) {
                return;
            }
            if (inner instanceof Shelf shelf && shelf.kind() == Thing.BOX) {
                part.inner = shelf;
            } else {
                ledger.fault(Ledger.KIND);
            }
        }

        /** How many bytes the FORM has that is OUT now; or - 1 less the FAULT's kind. */
        int writeOut(Thing thing) {
            outLength = 0;
            outFault = 0;
            writeThing(thing, 1);
            if (outFault != 0) {
                outLength = 0;
                return -1 - outFault;
            }
            return outLength;
        }

        private void writeThing(Thing thing, int depth) {
            if (depth > DEEPEST) {
                outFault = Ledger.DEEP;
                return;
            }
            writeBytes(thing == null ? 0 : thing.kind(), 1);
            if (thing instanceof Row row) {
                writeRow(row);
            } else if (thing instanceof Shelf shelf) {
                writeShelf(shelf, depth);
            } else if (thing instanceof Part part) {
                writePart(part, depth);
            } else if (thing instanceof Trouble trouble) {
                writeBytes(trouble.number, 4);
            }
        }

        /** Nothing comes behind a FAULT, so that the first one is told. */
        private void writeBytes(long value, int count) {
            if (outFault != 0) {
                return;
            }
            if (outLength + count > MOST_BYTES) {
                outFault = Ledger.BOUNDS;
                return;
            }
            for (int i = 0; i < count; i++) {
                out[outLength + i] = (byte) (value >> 8 * (count - 1 - i));
            }
            outLength += count;
        }

        private void writeRow(Row row) {
            writeBytes(row.members.length, 4);
            for (int i = 0; i < row.members.length && outFault == 0; i++) {
                writeBytes(row.members[i], bytesOf(row.width));
            }
        }

        private void writeShelf(Shelf shelf, int depth) {
            if (shelf.boxClass != NONE) {
                writeBytes(shelf.boxClass, 1);
            }
            writeBytes(shelf.members.length, 4);
            for (int i = 0; i < shelf.members.length && outFault == 0; i++) {
                writeThing(shelf.members[i], depth + 1);
            }
        }

        private void writePart(Part part, int depth) {
            writeBytes(part.count, 4);
            writeBytes(part.weight, 8);
            if (part.isPriced()) {
                writeBytes(part.price, 4);
            }
            if (part.partClass == Part.CASE && outFault == 0) {
                writeThing(part.inner, depth + 1);
            }
        }
    }

    /** NUMBERS, REALS, SLOTS, and the OPS that have no parts behind them. */
    private static final class Ops {
        static final int NUMBERS = 8;
        static final int REALS = 4;
        static final int SLOTS = 16;

        final int[] numbers = new int[NUMBERS];
        final long[] reals = new long[REALS];
        final Thing[] slots = new Thing[SLOTS];
        private final byte[] code;
        private final Ledger ledger;
        private int place;

        Ops(byte[] code, Ledger ledger) {
            this.code = code;
            this.ledger = ledger;
        }

        /** Does the OP at this place; its FUEL has been taken. */
        void perform(int at) {
            place = at;
            int op = operand(0);
            switch (op) {
                case 1: setNumber(1, (int) bytes(2, 4)); break;
                case 2: setNumber(1, numberAt(2)); break;
                case 3: calculate(operand(3), numberAt(1), numberAt(2)); break;
                case 4: setReal(1, Real.plain(bytes(2, 8))); break;
                case 5: setReal(1, Real.ofInt(numberAt(2))); break;
                case 6: setNumber(1, Real.toInt(realAt(2))); break;
                case 7: setReal(1, Real.paired(operand(3), realAt(1), realAt(2))); break;
                case 8: setReal(1, Real.changed(operand(2), realAt(1))); break;
                case 9: setNumber(1, Real.holds(operand(4), realAt(2), realAt(3)) ? 1 : 0); break;
                case 10: setSlot(1, slotAt(2)); break;
                case 11: setSlot(1, null); break;
                case 12: makeRow(numberAt(3)); break;
                case 13: makeGrid(numberAt(2), numberAt(3)); break;
                case 14: makeBox(numberAt(3)); break;
                case 15: makePart(); break;
                case 16: makeTrouble(); break;
                case 17: countMembers(slotAt(2)); break;
                case 18: setNumber(1, fits(slotAt(2), operand(3)) ? 1 : 0); break;
                case 19: takeMember(slotAt(3), numberAt(4)); break;
                case 20: putMember(slotAt(2), numberAt(3)); break;
                case 21: copyMembers(slotAt(1), slotAt(3)); break;
                case 22: makeTwin(slotAt(2)); break;
                case 23: takeThing(Thing.GRID, slotAt(2), numberAt(3)); break;
                case 24: putThing(Thing.GRID, slotAt(1), numberAt(2), slotAt(3)); break;
                case 25: takeThing(Thing.BOX, slotAt(2), numberAt(3)); break;
                case 26: putThing(Thing.BOX, slotAt(1), numberAt(2), slotAt(3)); break;
                case 27: takeField(operand(1), slotAt(3)); break;
                case 28: putField(operand(1), slotAt(2)); break;
                case 29: ask(operand(1), slotAt(3), numberAt(4)); break;
                case 34: tell(slotAt(1)); break;
                default: break;
            }
        }

        private int operand(int k) {
            int at = place + k;
            return at >= 0 && at < code.length ? code[at] & 255 : 0;
        }

        private long bytes(int first, int count) {
            long value = 0;
            for (int i = 0; i < count; i++) {
                value = value << 8 | operand(first + i);
            }
            return value;
        }

        // No PATCH has an operand out of its bounds; the masks keep an index within its row anyway.

        private int numberAt(int k) {
            return numbers[operand(k) & NUMBERS - 1];
        }

        private void setNumber(int k, int value) {
            numbers[operand(k) & NUMBERS - 1] = value;
        }

        private long realAt(int k) {
            return reals[operand(k) & REALS - 1];
        }

        private void setReal(int k, long value) {
            reals[operand(k) & REALS - 1] = value;
        }

        private Thing slotAt(int k) {
            return slots[operand(k) & SLOTS - 1];
        }

        private void setSlot(int k, Thing thing) {
            slots[operand(k) & SLOTS - 1] = thing;
        }

        /** The FAULT of what is not what it must be. */
        private void miss(Thing thing) {
            ledger.fault(thing == null ? Ledger.EMPTY : Ledger.KIND);
        }

        private boolean isWithin(int i, int size) {
            if (i < 0 || i >= size) {
                ledger.fault(Ledger.BOUNDS);
                return false;
            }
            return true;
        }

        /** The FUEL for members that were made or copied: one for each 8 begun. */
        static long eighths(long members) {
            return (members + 7) / 8;
        }

        private void calculate(int h, int x, int y) {
            if ((h == 3 || h == 4) && y == 0) {
                ledger.fault(Ledger.DIVISION);
                return;
            }
            setNumber(1, calculated(h, x, y));
        }

        private static int calculated(int h, int x, int y) {
            switch (h) {
                case 0:
                    return x + y;
                case 1:
                    return x - y;
                case 2:
                    return x * y;
                case 3:
                    return y == 0 ? 0 : x / y;
                case 4:
                    return y == 0 ? 0 : x % y;
                case 5:
                    return x < y ? 1 : 0;
                default:
                    return x == y ? 1 : 0;
            }
        }

        private void makeRow(int size) {
            if (size < 0) {
                ledger.fault(Ledger.NEGATIVE);
            } else if (ledger.make(1L + size)) {
                setSlot(1, new Row(operand(2), size));
                ledger.burn(eighths(size));
            }
        }

        private void makeGrid(int rows, int size) {
            if (rows < 0 || size < 0) {
                ledger.fault(Ledger.NEGATIVE);
            } else if (ledger.make(1L + rows + rows * (1L + size))) {
                Shelf grid = new Shelf(NONE, rows);
                for (int i = 0; i < rows; i++) {
                    grid.members[i] = new Row(Thing.INTS, size);
                }
                setSlot(1, grid);
                ledger.burn(eighths((long) rows * size + rows));
            }
        }

        private void makeBox(int size) {
            if (size < 0) {
                ledger.fault(Ledger.NEGATIVE);
            } else if (ledger.make(1L + size)) {
                setSlot(1, new Shelf(operand(2), size));
                ledger.burn(eighths(size));
            }
        }

        private void makePart() {
            if (ledger.make(Part.COST)) {
                setSlot(1, new Part(operand(2)));
            }
        }

        private void makeTrouble() {
            if (ledger.make(Trouble.COST)) {
                setSlot(1, new Trouble(numberAt(2)));
            }
        }

        private void makeTwin(Thing thing) {
            if (thing == null || thing.size() < 0) {
                miss(thing);
            } else if (ledger.make(1L + thing.size())) {
                setSlot(1, thing.twin());
                ledger.burn(eighths(thing.size()));
            }
        }

        private void countMembers(Thing thing) {
            if (thing == null || thing.size() < 0) {
                miss(thing);
            } else {
                setNumber(1, thing.size());
            }
        }

        /** OP 18. */
        private static boolean fits(Thing thing, int h) {
            if (thing == null) {
                return h == 0;
            }
            if (h == 19) {
                return thing instanceof Shelf box && box.kind() == Thing.BOX
                    && Part.isBelow(box.boxClass, Part.BOLT);
            }
            if (h < Thing.PART || h == Thing.TROUBLE) {
                return thing.kind() == h;
            }
            if (thing instanceof Part part) {
                return h == 17 ? part.isWeighed() : h == 18 ? part.isPriced()
                    : Part.isBelow(part.partClass, h - Thing.PART);
            }
            return false;
        }

        private void takeMember(Thing thing, int i) {
            int width = operand(1);
            if (!(thing instanceof Row row) || row.width != width) {
                miss(thing);
            } else if (isWithin(i, row.members.length)) {
                if (width == Thing.FLOATS) {
                    setReal(2, Real.ofFloat((int) row.members[i]));
                } else if (width == Thing.DOUBLES) {
                    setReal(2, row.members[i]);
                } else {
                    setNumber(2, (int) row.members[i]);
                }
            }
        }

        private void putMember(Thing thing, int i) {
            int width = operand(1);
            if (!(thing instanceof Row row) || row.width != width) {
                miss(thing);
            } else if (isWithin(i, row.members.length)) {
                if (width == Thing.FLOATS) {
                    row.put(i, Real.toFloat(realAt(4)));
                } else {
                    row.put(i, width == Thing.DOUBLES ? realAt(4) : numberAt(4));
                }
            }
        }

        /** Whether members of the one could go into the other at all. */
        private static boolean areAlike(Thing from, Thing to) {
            if (from instanceof Row a && to instanceof Row b) {
                return a.width == b.width;
            }
            return from instanceof Shelf && to instanceof Shelf;
        }

        private void copyMembers(Thing from, Thing to) {
            int i = numberAt(2);
            int j = numberAt(4);
            int count = numberAt(5);
            if (from == null || to == null) {
                ledger.fault(Ledger.EMPTY);
            } else if (!areAlike(from, to)) {
                ledger.fault(Ledger.MEMBER);
            } else if (i < 0 || j < 0 || count < 0
                    || (long) i + count > from.size() || (long) j + count > to.size()) {
                ledger.fault(Ledger.BOUNDS);
            } else if (from instanceof Shelf a && to instanceof Shelf b && !b.takeFrom(a, i, j, count)) {
                ledger.fault(Ledger.MEMBER);
            } else {
                if (from instanceof Row a && to instanceof Row b) {
                    System.arraycopy(a.members, i, b.members, j, count);
                }
                ledger.burn(eighths(count));
            }
        }

        private void takeThing(int kind, Thing thing, int i) {
            if (!(thing instanceof Shelf shelf) || shelf.kind() != kind) {
                miss(thing);
            } else if (isWithin(i, shelf.members.length)) {
                setSlot(1, shelf.members[i]);
            }
        }

        private void putThing(int kind, Thing target, int i, Thing thing) {
            boolean goesThere = thing == null
                || (kind == Thing.GRID ? thing.kind() == Thing.INTS : thing instanceof Part);
            if (target != null && target.kind() != kind || !goesThere) {
                ledger.fault(Ledger.KIND);
            } else if (!(target instanceof Shelf shelf)) {
                ledger.fault(Ledger.EMPTY);
            } else if (isWithin(i, shelf.members.length)) {
                if (shelf.refusal(thing) != 0) {
                    ledger.fault(shelf.refusal(thing));
                } else {
                    shelf.members[i] = thing;
                }
            }
        }

        private void takeField(int h, Thing thing) {
            if (!(thing instanceof Part part) || !part.has(h)) {
                miss(thing);
            } else if (h == 0) {
                setNumber(2, part.count);
            } else if (h == 1) {
                setReal(2, part.weight);
            } else if (h == 2) {
                setNumber(2, part.price);
            } else {
                setSlot(2, part.inner);
            }
        }

        private void putField(int h, Thing thing) {
            if (h == 3) {
                putInner(thing, slotAt(3));
            } else if (!(thing instanceof Part part) || !part.has(h)) {
                miss(thing);
            } else if (h == 0) {
                part.count = numberAt(3);
            } else if (h == 1) {
                part.weight = realAt(3);
            } else {
                part.price = numberAt(3);
            }
        }

        private void putInner(Thing target, Thing thing) {
            if (target != null && target.kind() != Thing.PART + Part.CASE
                    || thing != null && thing.kind() != Thing.BOX) {
                ledger.fault(Ledger.KIND);
            } else if (target instanceof Part part) {
                part.inner = thing instanceof Shelf box ? box : null;
            } else {
                ledger.fault(Ledger.EMPTY);
            }
        }

        private void ask(int h, Thing thing, int n) {
            if (!(thing instanceof Part part) || !part.answers(h)) {
                miss(thing);
                return;
            }
            if (h == 5) {
                setReal(2, Real.ofInt(part.label()));
                return;
            }
            long weighs = part.weighs(ledger, 1);
            if (!ledger.stopped()) {
                setReal(2, h == 0 ? weighs : part.loadOf(n, weighs));
            }
        }

        private void tell(Thing thing) {
            if (thing instanceof Trouble trouble) {
                ledger.faultTold(trouble.number);
            } else {
                miss(thing);
            }
        }
    }

    /**
     * Runs PATCHES. What is begun and not yet ended stands in frames, not in calls of the machine:
     * twelve PATCHES with ten OPS in one another each would be too many of these.
     */
    private static final class Engine {
        static final int MOST_PATCHES = 12;
        static final int MOST_FRAMES = MOST_PATCHES * (1 + Patches.MOST_NESTED);

        // Each OP takes FUEL and has a few steps at the most, so no run comes near this.
        static final int MOST_STEPS = 1000000;

        // What the bytes of a frame are.
        static final int PATCH = 0;
        static final int CHOSEN = 1;
        static final int ROUND = 2;
        static final int BODY = 3;
        static final int HANDLER = 4;
        static final int ALWAYS = 5;

        private final Patches patches;
        private final byte[] code;
        private final Ops ops;
        private final Ledger ledger;
        private final int[] role = new int[MOST_FRAMES];
        private final int[] opening = new int[MOST_FRAMES];
        private final int[] next = new int[MOST_FRAMES];
        private final int[] end = new int[MOST_FRAMES];
        // The FAULT that goes on when ALWAYS is done.
        private final int[] heldKind = new int[MOST_FRAMES];
        private final int[] heldNumber = new int[MOST_FRAMES];
        private final Thing[] saved = new Thing[MOST_FRAMES * Ops.SLOTS];
        private final Thing[] twins = new Thing[MOST_FRAMES * Ops.SLOTS];
        private int depth;
        private int openPatches;

        Engine(Patches patches, Ops ops, Ledger ledger) {
            this.patches = patches;
            this.code = patches.code;
            this.ops = ops;
            this.ledger = ledger;
        }

        /** Runs PATCH p with the ledger's FUEL: how the run ended. */
        int perform(int p) {
            depth = 0;
            openPatches = 0;
            beginPatch(p);
            boolean over = false;
            for (int step = 0; step < MOST_STEPS && !over; step++) {
                if (depth == 0 || ledger.stop == Ledger.NO_FUEL || ledger.stop == Ledger.FULL) {
                    over = true;
                } else if (ledger.stop == Ledger.FAULT) {
                    leaveByFault(depth - 1);
                } else if (next[depth - 1] < end[depth - 1]) {
                    beginOp(depth - 1);
                } else {
                    leave(depth - 1);
                }
            }
            return ledger.stop;
        }

        private int byteAt(int place) {
            return place >= 0 && place < code.length ? code[place] & 255 : 0;
        }

        private void push(int itsRole, int itsOpening, int start, int size) {
            if (depth < MOST_FRAMES) {
                role[depth] = itsRole;
                opening[depth] = itsOpening;
                next[depth] = start;
                end[depth] = start + size;
                depth++;
            }
        }

        private void pop(int top) {
            if (role[top] == PATCH) {
                openPatches--;
            }
            depth = top;
        }

        private void beginPatch(int p) {
            if (openPatches >= MOST_PATCHES) {
                ledger.fault(Ledger.DEEP);
                return;
            }
            openPatches++;
            int start = p * Patches.MOST_BYTES;
            push(PATCH, start, start, patches.lengths[p & Patches.COUNT - 1]);
        }

        private void beginOp(int top) {
            int place = next[top];
            int op = byteAt(place);
            if (!ledger.burn(1)) {
                return;
            }
            int behind = place + 1 + Patches.operands(op).length();
            next[top] = behind;
            switch (op) {
                case Patches.CHOICE:
                    choose(top, place, behind);
                    break;
                case Patches.ROUNDS:
                    next[top] = behind + byteAt(place + 2);
                    if (isOn(place)) {
                        push(ROUND, place, behind, byteAt(place + 2));
                    }
                    break;
                case Patches.SCOPE:
                    beginScope(top, place, behind);
                    break;
                case Patches.CALL:
                    beginPatch(byteAt(place + 1));
                    break;
                default:
                    ops.perform(place);
                    break;
            }
        }

        /** Whether the NUMBER that an OP asks for is not 0. */
        private boolean isOn(int place) {
            return ops.numbers[byteAt(place + 1) & Ops.NUMBERS - 1] != 0;
        }

        private void choose(int top, int place, int behind) {
            int first = byteAt(place + 2);
            int second = byteAt(place + 3);
            next[top] = behind + first + second;
            if (isOn(place)) {
                push(CHOSEN, place, behind, first);
            } else {
                push(CHOSEN, place, behind + first, second);
            }
        }

        private void beginScope(int top, int place, int behind) {
            next[top] = behind + byteAt(place + 4) + byteAt(place + 5) + byteAt(place + 6);
            push(BODY, place, behind, byteAt(place + 4));
            keepSlots(depth - 1);
        }

        /** Whether the SCOPE of a frame saves a SLOT. */
        private boolean saves(int frame, int s) {
            int place = opening[frame];
            int bits = byteAt(place + 2) | byteAt(place + 3) << 8;
            return (bits >> s & 1) == 1;
        }

        private void keepSlots(int frame) {
            for (int s = 0; s < Ops.SLOTS && !ledger.stopped(); s++) {
                if (saves(frame, s)) {
                    keepSlot(frame * Ops.SLOTS + s, ops.slots[s]);
                }
            }
        }

        private void keepSlot(int at, Thing thing) {
            saved[at] = thing;
            twins[at] = null;
            if (thing != null && thing.size() >= 0 && ledger.make(1L + thing.size())) {
                twins[at] = thing.twin();
                ledger.burn(Ops.eighths(thing.size()));
            }
        }

        private void putSlotsBack(int frame) {
            for (int s = 0; s < Ops.SLOTS; s++) {
                if (saves(frame, s)) {
                    Thing thing = saved[frame * Ops.SLOTS + s];
                    ops.slots[s] = thing;
                    if (thing != null) {
                        thing.putBack(twins[frame * Ops.SLOTS + s]);
                    }
                }
            }
        }

        /** What is done when the bytes of the top frame have been done. */
        private void leave(int top) {
            switch (role[top]) {
                case ROUND:
                    beginFurtherRound(top);
                    break;
                case BODY:
                case HANDLER:
                    beginAlways(top, 0, 0);
                    break;
                case ALWAYS:
                    pop(top);
                    if (heldKind[top] != 0) {
                        ledger.handOn(heldKind[top], heldNumber[top]);
                    }
                    break;
                default:
                    pop(top);
                    break;
            }
        }

        private void beginFurtherRound(int top) {
            int place = opening[top];
            if (!isOn(place)) {
                pop(top);
            } else if (ledger.burn(1)) {
                next[top] = end[top] - byteAt(place + 2);
            }
        }

        private void beginAlways(int top, int kind, int number) {
            int place = opening[top];
            role[top] = ALWAYS;
            next[top] = place + 7 + byteAt(place + 4) + byteAt(place + 5);
            end[top] = next[top] + byteAt(place + 6);
            heldKind[top] = kind;
            heldNumber[top] = number;
        }

        private void beginHandler(int top, int kind, int number) {
            int place = opening[top];
            putSlotsBack(top);
            ops.numbers[7] = kind;
            ops.numbers[6] = number;
            role[top] = HANDLER;
            next[top] = place + 7 + byteAt(place + 4);
            end[top] = next[top] + byteAt(place + 5);
        }

        /** The FAULT goes out of the top frame, or is taken there. */
        private void leaveByFault(int top) {
            int kind = ledger.kind;
            int number = ledger.number;
            if (role[top] != BODY && role[top] != HANDLER) {
                pop(top);
                return;
            }
            ledger.settle();
            if (role[top] == BODY && (byteAt(opening[top] + 1) >> kind - 1 & 1) == 1) {
                beginHandler(top, kind, number);
            } else {
                beginAlways(top, kind, number);
            }
        }
    }
}
