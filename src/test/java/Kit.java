import java.util.ArrayList;
import java.util.Arrays;
import java.util.List;
import java.util.NoSuchElementException;
import java.util.function.LongSupplier;

/** What the tests share: a house, ways to put bytes into it, and a count of wrong answers. */
final class Kit {
    private static int wrong = 0;

    final House house = new House();

    static void due(String what, long got, long want) {
        if (got != want) {
            wrong++;
            if (wrong <= 50) {
                System.out.println(what + " answered " + got + ", due is " + want);
            }
        }
    }

    static void finish() {
        if (wrong != 0) {
            System.out.println(wrong + " answers are not as due");
            System.exit(1);
        }
    }

    // Bytes.

    static int[] join(int[]... parts) {
        List<Integer> all = new ArrayList<>();
        for (int[] part : parts) {
            for (int b : part) {
                all.add(b & 255);
            }
        }
        int[] bytes = new int[all.size()];
        for (int i = 0; i < bytes.length; i++) {
            bytes[i] = all.get(i);
        }
        return bytes;
    }

    static int[] b(int... bytes) {
        return bytes;
    }

    static int[] times(int count, int... bytes) {
        int[][] parts = new int[count][];
        for (int i = 0; i < count; i++) {
            parts[i] = bytes;
        }
        return join(parts);
    }

    static int[] four(int value) {
        return b(value >>> 24, value >> 16 & 255, value >> 8 & 255, value & 255);
    }

    static int[] eight(long value) {
        return join(four((int) (value >> 32)), four((int) value));
    }

    static int[] bits(double value) {
        return eight(Double.doubleToLongBits(value));
    }

    // OPS that are much used.

    static int[] n(int number, int value) {
        return join(b(1, number), four(value));
    }

    static int[] r(int real, double value) {
        return join(b(4, real), bits(value));
    }

    static int[] choice(int number, int[] yes, int[] no) {
        return join(b(30, number, yes.length, no.length), yes, no);
    }

    static int[] rounds(int number, int[] body) {
        return join(b(31, number, body.length), body);
    }

    static int[] scope(int kinds, int slots, int[] body, int[] handler, int[] always) {
        return join(b(32, kinds, slots & 255, slots >> 8, body.length, handler.length, always.length),
            body, handler, always);
    }

    // Calls.

    void tape(int... bytes) {
        house.end(0);
        for (int i = 0; i < bytes.length; i += 20) {
            int[] words = new int[5];
            for (int k = 0; k < 20; k++) {
                int value = i + k < bytes.length ? bytes[i + k] & 255 : 0;
                words[k / 4] = words[k / 4] << 8 | value;
            }
            house.feed(words[0], words[1], words[2], words[3], words[4]);
        }
        due("end", house.end(bytes.length), bytes.length);
    }

    int patch(int p, int[]... parts) {
        tape(join(parts));
        return house.patch(p);
    }

    int load(int s, int[]... parts) {
        tape(join(parts));
        return house.load(s);
    }

    /** Makes these bytes PATCH p and runs it. */
    int does(int p, int fuel, int[]... parts) {
        due("patch", patch(p, parts), 0);
        return house.run(p, fuel);
    }

    /** Runs the bytes as PATCH 15 and looks at what it answers, its FAULT and the FUEL it took. */
    void run(String what, int answer, int kind, int taken, int[]... parts) {
        due(what + ": run", does(15, 1000, parts), answer);
        due(what + ": kind", house.look(0), kind);
        due(what + ": FUEL", 1000 - house.look(2), taken);
    }

    void saved(String what, int s, int[]... parts) {
        int[] want = join(parts);
        due(what + ": save", house.save(s), want.length);
        due(what + ": look(5)", house.look(5), want.length);
        for (int i = 0; i < want.length; i++) {
            due(what + ": out(" + i + ")", out(i), want[i]);
        }
        due(what + ": out at the end", out(want.length), MISSING);
        due(what + ": out(-1)", out(-1), MISSING);
    }

    /** Makes MADE that number, by a ROW that no SLOT has then; PATCH 13, S 15 and N 7 are used for it. */
    void fillTo(int made) {
        int more = made - house.look(3);
        due("fill", does(13, 20000, n(7, more - 1), b(12, 15, 1, 7), b(11, 15), n(7, 0)), 0);
        due("fill: MADE", house.look(3), made);
    }

    /** What the calls that change nothing tell: of members and of OUT the first ones. */
    long[] state() {
        List<Long> all = new ArrayList<>();
        for (int what = 0; what < 23; what++) {
            all.add((long) house.look(what));
        }
        for (int n = 0; n < 8; n++) {
            all.add((long) house.number(n));
        }
        for (int r = 0; r < 4; r++) {
            all.add(house.real(r));
        }
        all.add(out(0));
        all.add(out(1));
        for (int s = 0; s < 16; s++) {
            all.add((long) house.slot(s, 0));
            if (house.slot(s, 0) != 0) {
                all.add((long) house.slot(s, 1));
                all.add((long) house.same(s, 0));
                all.add(member(s, 0));
                all.add(member(s, 1));
            }
        }
        return all.stream().mapToLong(Long::longValue).toArray();
    }

    /** Nothing is told otherwise than before. */
    void stays(String what, long[] before) {
        due(what + ": all stays", Arrays.equals(before, state()) ? 1 : 0, 1);
    }

    // Calls that may throw: what is told instead is no answer of these.

    static final long MISSING = 0x5A5A5A5A5A5A5A5AL;

    static long answer(LongSupplier call) {
        try {
            return call.getAsLong();
        } catch (NoSuchElementException e) {
            return MISSING;
        }
    }

    long out(int i) {
        return answer(() -> house.out(i));
    }

    long number(int n) {
        return answer(() -> house.number(n));
    }

    long real(int r) {
        return answer(() -> house.real(r));
    }

    long member(int s, int i) {
        return answer(() -> house.member(s, i));
    }
}
