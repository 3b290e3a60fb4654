import java.util.Random;
import java.util.function.LongSupplier;

/** Runs of at most 512 calls that a seed makes, on PatchHouse and on the Model: every answer is the same. */
public final class FuzzTest {
    private static final int LAST_QUESTIONS = 8 * 3 + 16 * 7;
    private static final int MOST_CALLS_OF_A_STEP = 40;

    private final Random random;
    private final long seed;
    private final House house = new House();
    private final Model model = new Model();
    private int calls = 0;
    private final int slots;
    private final int smallest;
    // What each SLOT has at first, and gets mostly.
    private final int[] kinds = new int[16];

    // How often runs ended in each way, so that none is missed.
    private static final int[] ENDS = new int[4];
    private static final int[] KINDS = new int[10];
    private static final int[] LOADS = new int[10];
    private static final int[] SAVES = new int[3];

    private FuzzTest(long seed) {
        this.seed = seed;
        random = new Random(seed);
        slots = 1 + random.nextInt(16);
        smallest = random.nextInt(3);
        for (int s = 0; s < 16; s++) {
            kinds[s] = chance(70) ? 9 + below(8) : 1 + below(8);
        }
    }

    private void due(String what, long got, long want) {
        calls++;
        Kit.due("seed " + seed + ", call " + calls + ": " + what, got, want);
    }

    private void dueOf(String what, LongSupplier got, LongSupplier want) {
        due(what, Kit.answer(got), Kit.answer(want));
    }

    private int below(int n) {
        return random.nextInt(n);
    }

    private boolean chance(int percent) {
        return below(100) < percent;
    }

    // Bytes of PATCHES.

    private int slot() {
        return below(slots);
    }

    /** A SLOT that has mostly one of these kinds, if there is one. */
    private int slotOf(int from, int to) {
        int first = slot();
        for (int i = 0; i < slots; i++) {
            int s = (first + i) % slots;
            if (kinds[s] >= from && kinds[s] <= to) {
                return s;
            }
        }
        return first;
    }

    private int slotLike(int s) {
        return slotOf(kinds[s], kinds[s]);
    }

    /** Puts such SLOTS into an OP with which it is done mostly. */
    private int[] fitting(int[] o) {
        switch (o[0]) {
            case 10: case 22: o[1] = chance(70) ? slotOf(1, 10) : slot(); o[2] = slotLike(o[1]); break;
            case 12: o[1] = slotOf(1, 8); o[2] = Math.min(8, kinds[o[1]]); break;
            case 13: o[1] = slotOf(9, 9); break;
            case 14: o[1] = slotOf(10, 10); break;
            case 15: o[1] = slotOf(11, 15); o[2] = Math.max(0, Math.min(4, kinds[o[1]] - 11)); break;
            case 16: o[1] = slotOf(16, 16); break;
            case 17: o[2] = slotOf(1, 10); break;
            case 19: o[3] = slotOf(1, 8); o[1] = Math.min(8, kinds[o[3]]); o[2] &= 3; break;
            case 20: o[2] = slotOf(1, 8); o[1] = Math.min(8, kinds[o[2]]); o[4] &= 3; break;
            case 21: o[1] = chance(30) ? slotOf(9, 9) : chance(50) ? slotOf(10, 10) : slotOf(1, 8);
                o[3] = chance(80) ? slotLike(o[1]) : slotOf(9, 10); break;
            case 23: o[1] = slotOf(4, 4); o[2] = slotOf(9, 9); break;
            case 24: o[1] = slotOf(9, 9); o[3] = slotOf(4, 4); break;
            case 25: o[1] = slotOf(11, 15); o[2] = slotOf(10, 10); break;
            case 26: o[1] = slotOf(10, 10); o[3] = slotOf(11, 15); break;
            case 27: o[3] = o[1] < 2 ? slotOf(11, 15) : o[1] == 2 ? slotOf(14, 15) : slotOf(15, 15);
                o[2] = o[1] == 3 ? slotOf(10, 10) : o[2]; break;
            case 28: o[2] = o[1] < 2 ? slotOf(11, 15) : o[1] == 2 ? slotOf(14, 15) : slotOf(15, 15);
                o[3] = o[1] == 3 ? slotOf(10, 10) : o[3]; break;
            case 29: o[3] = chance(50) ? slotOf(15, 15) : slotOf(11, 15); break;
            case 34: o[1] = slotOf(16, 16); break;
            default: break;
        }
        return o;
    }

    /** One OP with operands within their bounds and no parts. */
    private int[] plainOp() {
        int op = chance(55) ? 10 + below(20) : chance(12) ? 33 + below(2) : 1 + below(29);
        if (op == 1) {
            return Kit.n(below(8), chance(80) ? below(6) - (chance(10) ? 1 : 0)
                : chance(60) ? below(70) : chance(60) ? below(2500) : random.nextInt());
        }
        if (op == 4) {
            return Kit.r(below(4), chance(80) ? below(16) / 4.0 - 2 : Double.longBitsToDouble(random.nextLong()));
        }
        int[] limits = Model.LIMITS[op];
        int[] bytes = new int[1 + limits.length];
        bytes[0] = op;
        for (int i = 0; i < limits.length; i++) {
            int limit = limits[i];
            if (limit == 1008) {
                bytes[i + 1] = chance(60) ? 4 + smallest : 1 + below(8);
            } else if (limit == 300) {
                bytes[i + 1] = below(bytes[1] == 6 || bytes[1] == 7 ? 4 : 8);
            } else if (limit == 301) {
                bytes[i + 1] = bytes[1] == 3 ? slot() : below(bytes[1] == 1 ? 4 : 8);
            } else {
                bytes[i + 1] = limit == 15 && op != 33 ? slot() : below(limit + 1);
            }
        }
        int[] done = chance(85) ? fitting(bytes) : bytes;
        if (op == 12 && chance(8)) {
            // About as long as OUT has room for.
            return Kit.join(Kit.n(done[3], 1980 + below(30)), done);
        }
        return op == 21 && chance(70) ? Kit.join(Kit.n(done[2], below(3)), Kit.n(done[4], below(3)),
            Kit.n(done[5], below(4)), done) : done;
    }

    private int[] ops(int most, int nested) {
        int[] bytes = {};
        int count = below(6);
        for (int i = 0; i < count || nested == 0 && bytes.length < most / 2; i++) {
            int[] op = chance(25) && nested < 9 ? partsOp(most - bytes.length, nested) : plainOp();
            if (bytes.length + op.length <= most) {
                bytes = Kit.join(bytes, op);
            } else if (nested == 0) {
                break;
            }
        }
        return bytes;
    }

    private int[] partsOp(int most, int nested) {
        int room = Math.max(0, most - 7) / 2;
        switch (below(4)) {
            case 0:
                return Kit.choice(below(8), ops(room, nested + 1), ops(room / 2, nested + 1));
            case 1:
                return Kit.rounds(below(8), ops(room, nested + 1));
            default:
                int kinds = chance(50) ? 255 : random.nextInt() & 255;
                int saves = chance(30) ? 0 : random.nextInt() & random.nextInt() & 0xFFFF;
                return Kit.scope(kinds, saves, ops(room, nested + 1), ops(room / 2, nested + 1),
                    ops(room / 2, nested + 1));
        }
    }

    private int[] spoilt(int[] bytes) {
        int[] other = bytes.clone();
        for (int i = 1 + below(3); i > 0 && other.length > 0; i--) {
            int at = below(other.length);
            other[at] = chance(50) ? below(40) : chance(50) ? below(256) : other[at] + below(3) - 1 & 255;
        }
        return chance(30) && other.length > 0 ? java.util.Arrays.copyOf(other, below(other.length)) : other;
    }

    // Bytes of values.

    private int[] thing(int kind, int depth) {
        int size = chance(5) ? below(40) : below(6);
        int[] bytes = {kind};
        if (kind >= 1 && kind <= 8) {
            bytes = Kit.join(bytes, Kit.four(size));
            for (int i = 0; i < size * Model.BYTES[kind]; i++) {
                bytes = Kit.join(bytes, Kit.b(chance(20) ? 255 : below(256)));
            }
        } else if (kind == 9) {
            bytes = Kit.join(bytes, Kit.four(size));
            for (int i = 0; i < size; i++) {
                bytes = Kit.join(bytes, thing(chance(60) ? 4 : chance(90) ? 0 : below(17), depth + 1));
            }
        } else if (kind == 10) {
            int cls = below(5);
            size = depth > 4 ? 1 : size;
            bytes = Kit.join(bytes, Kit.b(cls), Kit.four(size));
            for (int i = 0; i < size; i++) {
                int member = chance(70) ? 15 : chance(50) ? 11 + cls : 11 + below(5);
                bytes = Kit.join(bytes, thing(cls == 0 && chance(80) ? member : 11 + cls, depth + 1));
            }
        } else if (kind >= 11 && kind <= 15) {
            bytes = Kit.join(bytes, Kit.four(below(9) - 2),
                Kit.eight(chance(90) ? Double.doubleToLongBits(below(9) / 4.0) : random.nextLong()));
            bytes = kind < 14 ? bytes : Kit.join(bytes, Kit.four(below(9) - 2));
            bytes = kind < 15 ? bytes : Kit.join(bytes,
                thing(depth < 33 && chance(85) ? 10 : chance(80) ? 0 : below(17), depth + 1));
        } else if (kind == 16) {
            bytes = Kit.join(bytes, Kit.four(random.nextInt()));
        }
        return bytes.length > 2100 ? java.util.Arrays.copyOf(bytes, 2100) : bytes;
    }

    /** A CASE in a BOX in a CASE and so on, as deep as a value may go, or one more. */
    private int[] deepThing() {
        int[] bytes = chance(50) ? Kit.b(0) : chance(50) ? thing(11, 40) : Kit.b();
        for (int i = 0; i < 12 + below(5); i++) {
            bytes = Kit.join(Kit.b(15), Kit.four(1), Kit.bits(0.5), Kit.four(2), Kit.b(10, chance(50) ? 0 : 4),
                Kit.four(1), bytes);
        }
        return chance(50) ? bytes : Kit.join(Kit.b(10, 0, 0, 0, 0, 1), bytes);
    }

    // Calls.

    /** Whether the house may still be asked that often ahead of the last questions. */
    private boolean hasLeft(int more) {
        return house.calls() + more <= House.MOST_CALLS - LAST_QUESTIONS;
    }

    private static int callsFor(int[] bytes) {
        return 2 + (bytes.length + 19) / 20;
    }

    private void tape(int[] bytes) {
        due("end", house.end(0), model.end(0));
        for (int i = 0; i < bytes.length; i += 20) {
            int[] w = new int[5];
            for (int k = 0; k < 20; k++) {
                w[k / 4] = w[k / 4] << 8 | (i + k < bytes.length ? bytes[i + k] & 255 : 0);
            }
            due("feed", house.feed(w[0], w[1], w[2], w[3], w[4]), model.feed(w[0], w[1], w[2], w[3], w[4]));
        }
        due("end", house.end(bytes.length), model.end(bytes.length));
    }

    private void patch() {
        int[] bytes = ops(chance(90) ? 200 : 230, 0);
        bytes = chance(15) ? spoilt(bytes) : bytes;
        if (hasLeft(callsFor(bytes) + 1)) {
            tape(bytes);
            int p = chance(98) ? below(4) : below(20) - 2;
            due("patch " + p, house.patch(p), model.patch(p));
        }
    }

    private void run() {
        int p = chance(98) ? below(4) : below(20) - 2;
        int fuel = chance(50) ? below(200) : chance(95) ? 3000 + below(17001) : random.nextInt();
        int answer = model.run(p, fuel);
        due("run " + p + " " + fuel, house.run(p, fuel), answer);
        if (answer >= 0) {
            ENDS[answer]++;
            KINDS[model.look(0)]++;
        }
        for (int what = 0; what < 4; what++) {
            due("look " + what, house.look(what), model.look(what));
        }
    }

    private void load(int[] bytes, int s) {
        if (hasLeft(callsFor(bytes) + 1)) {
            tape(bytes);
            int answer = model.load(s);
            due("load " + s, house.load(s), answer);
            if (answer >= 0) {
                LOADS[answer]++;
            }
        }
    }

    private void load() {
        int[] bytes = chance(20) ? deepThing() : thing(chance(50) ? 9 + below(7) : below(18), 1);
        if (chance(20)) {
            bytes = spoilt(bytes);
        }
        if (chance(3)) {
            bytes = Kit.join(Kit.b(1 + below(10)), Kit.four(random.nextInt() >> below(32)), bytes);
        }
        load(bytes, chance(98) ? slotOf(bytes.length == 0 ? 0 : bytes[0], bytes.length == 0 ? 16 : bytes[0])
            : below(20) - 2);
    }

    private void save() {
        int s = chance(98) ? slot() : below(20) - 2;
        int answer = model.save(s);
        due("save " + s, house.save(s), answer);
        SAVES[answer >= 0 ? 0 : answer == -3 ? 1 : 2]++;
        for (int i = 0; i < 8; i++) {
            int at = below(Math.max(3, answer + 3)) - 1;
            dueOf("out " + at, () -> house.out(at), () -> model.out(at));
        }
    }

    /** One question that changes nothing. */
    private void ask() {
        int i = below(26) - 2;
        int s = chance(95) ? slot() : below(18) - 1;
        int t = chance(95) ? slot() : below(18) - 1;
        int at = chance(80) ? below(4) : below(14) - 1;
        switch (below(8)) {
            case 0:
                due("look " + i, house.look(i), model.look(i));
                break;
            case 1:
                dueOf("number " + i, () -> house.number(i & 15), () -> model.number(i & 15));
                break;
            case 2:
                dueOf("real " + i, () -> house.real(i & 7), () -> model.real(i & 7));
                break;
            case 3:
                due("slot " + s + " " + at, house.slot(s, at), model.slot(s, at));
                break;
            case 4:
                due("same " + s + " " + t, house.same(s, t), model.same(s, t));
                break;
            default:
                dueOf("member " + s + " " + at, () -> house.member(s, at), () -> model.member(s, at));
                break;
        }
    }

    /** At most LAST_QUESTIONS of them. */
    private void askAll() {
        for (int i = 0; i < 8; i++) {
            int at = i;
            due("look " + i, house.look(i), model.look(i));
            due("number " + i, house.number(i), model.number(i));
            dueOf("real " + i, () -> house.real(at), () -> model.real(at));
        }
        for (int s = 0; s < 16; s++) {
            int it = s;
            due("slot " + s, house.slot(s, 0), model.slot(s, 0));
            due("slot " + s + " 1", house.slot(s, 1), model.slot(s, 1));
            due("slot " + s + " 2", house.slot(s, 2), model.slot(s, 2));
            due("same " + s, house.same(s, s + 1), model.same(s, s + 1));
            for (int i = 0; i < 3; i++) {
                int at = i;
                dueOf("member " + s + " " + i, () -> house.member(it, at), () -> model.member(it, at));
            }
        }
    }

    private void perform() {
        for (int s = 0; s < slots; s++) {
            load(thing(chance(97) ? kinds[s] : 0, 1), s);
        }
        while (hasLeft(MOST_CALLS_OF_A_STEP)) {
            int what = below(10);
            if (what < 4) {
                patch();
                run();
            } else if (what < 6) {
                run();
            } else if (what < 8) {
                load();
            } else {
                save();
            }
            for (int i = 0; i < 8 && hasLeft(1); i++) {
                ask();
            }
        }
        askAll();
    }

    private static void mustBe(String what, int count) {
        Kit.due(what + " came in no run at all: ", count > 0 ? 1 : 0, 1);
    }

    public static void main(String[] args) {
        int runs = args.length > 0 ? Integer.parseInt(args[0]) : 12000;
        long first = args.length > 1 ? Long.parseLong(args[1]) : 1;
        for (long seed = first; seed < first + runs; seed++) {
            new FuzzTest(seed).perform();
        }
        for (int i = 0; i < 4; i++) {
            mustBe("run's answer " + i, ENDS[i]);
        }
        for (int k = 0; k <= 8; k++) {
            mustBe("FAULT " + k, KINDS[k]);
        }
        for (int k : new int[] {0, 2, 3, 4, 5, 8, 9}) {
            mustBe("load's answer " + k, LOADS[k]);
        }
        for (int i = 0; i < 3; i++) {
            mustBe("save's way " + i, SAVES[i]);
        }
        if (args.length > 0) {
            System.out.println(java.util.Arrays.toString(ENDS) + java.util.Arrays.toString(KINDS)
                + java.util.Arrays.toString(LOADS) + java.util.Arrays.toString(SAVES));
        }
        Kit.finish();
    }
}
