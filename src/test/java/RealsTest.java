import java.util.Random;

/** OPS 4 to 9 and the ROWS of reals against the machine's own doubles and floats. */
public final class RealsTest {
    private static final long[] EDGES = {
        0L, 1L, 2L, 0x000FFFFFFFFFFFFFL, 0x0010000000000000L, 0x0010000000000001L, 0x001FFFFFFFFFFFFFL,
        0x0020000000000000L, 0x0340000000000000L, 0x0350000000000000L, 0x0360000000000000L,
        0x7FEFFFFFFFFFFFFFL, 0x7FF0000000000000L, 0x7FF0000000000001L, 0x7FF8000000000000L,
        0x7FFFFFFFFFFFFFFFL, 0x3FF0000000000000L, 0x3FF0000000000001L, 0x3FEFFFFFFFFFFFFFL,
        0x3FE0000000000000L, 0x3FE0000000000001L, 0x3FDFFFFFFFFFFFFFL, 0x3FF8000000000000L,
        0x4004000000000000L, 0x400C000000000000L, 0x41DFFFFFFFC00000L, 0x41DFFFFFFFE00000L,
        0x41E0000000000000L, 0x41E0000000200000L, 0x4330000000000000L, 0x432FFFFFFFFFFFFFL,
        0x4320000000000001L, 0x4340000000000000L, 0x433FFFFFFFFFFFFFL, 0x36A0000000000000L,
        0x3690000000000000L, 0x3690000000000001L, 0x380FFFFFFFFFFFFFL, 0x380FFFFFE0000000L,
        0x3810000000000000L, 0x47EFFFFFE0000000L, 0x47EFFFFFEFFFFFFFL, 0x47EFFFFFF0000000L,
        0x3FF0000010000000L, 0x3FF0000030000000L, 0x3FF0000010000001L, 0x3FB999999999999AL,
        0x4008000000000000L, 0x4024000000000000L,
    };

    private static final Random RANDOM = new Random(5);

    private static long some() {
        long bits = RANDOM.nextLong();
        switch (RANDOM.nextInt(8)) {
            case 0:
                return EDGES[RANDOM.nextInt(EDGES.length)] ^ bits & Long.MIN_VALUE;
            case 1:
                return bits & 0x800FFFFFFFFFFFFFL;
            case 2:
                return Double.doubleToRawLongBits(RANDOM.nextInt(64) / 8.0 - 4);
            case 3:
                return Double.doubleToRawLongBits(bits >> RANDOM.nextInt(64));
            case 4:
                // Few bits behind the point: sums and products that are halfway between two.
                return bits & 0x800FFC0000000000L | (long) (1023 - 30 + RANDOM.nextInt(90)) << 52;
            case 5:
                return bits & 0x800FFFFFFFFFFFFFL | (long) (1023 - 60 + RANDOM.nextInt(120)) << 52;
            default:
                return bits;
        }
    }

    private static int[] take(int real, long bits) {
        return Kit.join(Kit.b(4, real), Kit.eight(bits));
    }

    private static void checkPair(Kit kit, long x, long y) {
        double a = Double.longBitsToDouble(x);
        double b = Double.longBitsToDouble(y);
        String what = Long.toHexString(x) + " " + Long.toHexString(y);
        for (int h = 0; h < 8; h += 2) {
            kit.does(0, 10, take(1, y), take(0, x), Kit.b(7, 0, 1, h), take(2, x), Kit.b(7, 2, 1, h + 1));
            Kit.due("7 " + h + " " + what, kit.house.real(0), Double.doubleToLongBits(Model.two(h, a, b)));
            Kit.due("7 " + (h + 1) + " " + what, kit.house.real(2),
                Double.doubleToLongBits(Model.two(h + 1, a, b)));
        }
        int[] compare = Kit.join(take(0, x), take(1, y));
        for (int h = 0; h < 6; h++) {
            compare = Kit.join(compare, Kit.b(9, h, 0, 1, h));
        }
        kit.does(0, 10, compare);
        for (int h = 0; h < 6; h++) {
            Kit.due("9 " + h + " " + what, kit.house.number(h), Model.compare(h, a, b) ? 1 : 0);
        }
    }

    private static void checkOne(Kit kit, long x) {
        double a = Double.longBitsToDouble(x);
        String what = Long.toHexString(x);
        for (int h = 0; h < 10; h += 2) {
            kit.does(0, 10, take(0, x), Kit.b(8, 0, h), take(1, x), Kit.b(8, 1, h + 1));
            Kit.due("8 " + h + " " + what, kit.house.real(0), Double.doubleToLongBits(Model.one(h, a)));
            Kit.due("8 " + (h + 1) + " " + what, kit.house.real(1),
                Double.doubleToLongBits(Model.one(h + 1, a)));
        }
        kit.does(0, 20, take(0, x), Kit.b(6, 0, 0), Kit.n(1, (int) x), Kit.b(5, 1, 1),
            Kit.b(20, 6, 0, 7, 0), Kit.b(19, 6, 2, 0, 7), Kit.b(20, 7, 1, 7, 0), Kit.b(19, 7, 3, 1, 7));
        Kit.due("4 " + what, kit.house.real(0), Double.doubleToLongBits(a));
        Kit.due("6 " + what, kit.house.number(0), (int) a);
        Kit.due("5 " + what, kit.house.real(1), Double.doubleToLongBits((int) x));
        Kit.due("FLOAT " + what, kit.house.member(0, 0), Float.floatToIntBits((float) a));
        Kit.due("of FLOAT " + what, kit.house.real(2), Double.doubleToLongBits((float) a));
        Kit.due("DOUBLE " + what, kit.house.member(1, 0), Double.doubleToLongBits(a));
        Kit.due("of DOUBLE " + what, kit.house.real(3), Double.doubleToLongBits(a));
    }

    private static void checkLoaded(Kit kit, int bits, long wide) {
        Kit.due("load", kit.load(2, Kit.b(6, 0, 0, 0, 1), Kit.four(bits)), 0);
        float value = Float.intBitsToFloat(bits);
        Kit.due("loaded FLOAT " + bits, kit.house.member(2, 0), Float.floatToIntBits(value));
        kit.does(0, 10, Kit.n(7, 0), Kit.b(19, 6, 0, 2, 7));
        Kit.due("loaded FLOAT taken " + bits, kit.house.real(0), Double.doubleToLongBits(value));
        Kit.due("load", kit.load(3, Kit.b(7, 0, 0, 0, 1), Kit.eight(wide)), 0);
        Kit.due("loaded DOUBLE " + wide, kit.house.member(3, 0),
            Double.doubleToLongBits(Double.longBitsToDouble(wide)));
    }

    /** The number that gives 1 with an odd one, by their lowest 64 bits. */
    private static long inverse(long odd) {
        long x = odd;
        for (int i = 0; i < 6; i++) {
            x *= 2 - odd * x;
        }
        return x;
    }

    private static long lowest(int places, long bits) {
        return bits & (1L << places) - 1;
    }

    /**
     * Products whose bits behind those that a real keeps are 1, then zeros, then one last 1: that one alone says that
     * they are more than halfway. Its place goes through all that it can be at.
     */
    private static void productsJustAboveHalfway() {
        for (int last = 0; last < 51; last++) {
            for (int half = 51; half <= 52; half++) {
                int zerosOfFirst = Math.min(last, 22);
                int zeros = last - zerosOfFirst;
                long first = 1L << 52 - zerosOfFirst | lowest(52 - zerosOfFirst, RANDOM.nextLong()) | 1;
                // As many places of the second one as say what those up to the half are; the others are free.
                int told = half - last + 1;
                long second = lowest(told, ((1L << half - last) + 1) * inverse(first));
                long more = 1L << 52 - zeros | lowest(52 - zeros, RANDOM.nextLong());
                second |= more >> told << told;
                if (second >> 52 - zeros == 1) {
                    long x = lowest(52, first << zerosOfFirst) | 1023L << 52;
                    long y = lowest(52, second << zeros) | 1023L << 52;
                    checkPair(kit(), x, y);
                    checkPair(kit(), x | Long.MIN_VALUE, y);
                }
            }
        }
    }

    private static Kit kit() {
        Kit kit = new Kit();
        kit.does(0, 20, Kit.n(0, 1), Kit.b(12, 0, 6, 0), Kit.b(12, 1, 7, 0), Kit.n(7, 0));
        return kit;
    }

    public static void main(String[] args) {
        for (long x : EDGES) {
            checkOne(kit(), x);
            checkOne(kit(), x | Long.MIN_VALUE);
            for (long y : EDGES) {
                Kit kit = kit();
                checkPair(kit, x, y);
                checkPair(kit, x | Long.MIN_VALUE, y);
                checkPair(kit, x, y | Long.MIN_VALUE);
                checkPair(kit, x | Long.MIN_VALUE, y | Long.MIN_VALUE);
            }
        }
        for (int i = 0; i < 50000; i++) {
            Kit kit = kit();
            for (int k = 0; k < 2; k++) {
                long x = some();
                checkOne(kit, x);
                checkPair(kit, x, some());
                // Near to one another: what is left of their difference is small.
                checkPair(kit, x, x + RANDOM.nextInt(9) - 4 ^ (k == 0 ? Long.MIN_VALUE : 0));
                checkLoaded(kit, RANDOM.nextInt(), some());
            }
        }
        for (int i = 0; i < 20; i++) {
            productsJustAboveHalfway();
        }
        for (long bits : EDGES) {
            Kit kit = kit();
            checkLoaded(kit, (int) (bits >> 32), bits);
            checkLoaded(kit, (int) (bits >> 29), bits);
            checkLoaded(kit, 0x7F800000 | (int) bits & 1, bits);
            checkLoaded(kit, (int) bits & 1, bits);
        }
        Kit.finish();
    }
}
