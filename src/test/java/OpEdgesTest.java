/** The sentences of PART 2 on single OPS, and of PART 3, WHICH FAULT. */
public final class OpEdgesTest extends Checks {
    private static final double NAN = Double.NaN;
    private static final double MOST = Double.MAX_VALUE;
    private static final double TINY = Double.MIN_VALUE;

    // NUMBERS.

    /** "1 n (4 bytes): that int, the highest byte first. 2 n m: N n is N m." */
    private static void anInt() {
        for (int value : new int[] {0, 1, -1, 255, 256, 0x80, 0x8000, 0x800000, LEAST, GREATEST, 0x01020304}) {
            for (int n = 0; n < 8; n++) {
                Kit kit = new Kit();
                kit.run("1, 2", 0, 0, 2, Kit.b(1, n, value >>> 24, value >> 16 & 255, value >> 8 & 255, value & 255),
                    Kit.b(2, 7 - n, n));
                for (int m = 0; m < 8; m++) {
                    due("N " + m + " behind 1 " + n, kit.number(m), m == n || m == 7 - n ? value : 0);
                }
            }
        }
    }

    private static void reckoned(int h, int x, int y, int want) {
        Kit kit = new Kit();
        kit.run("3 " + h, 0, 0, 3, Kit.n(5, x), Kit.n(6, y), Kit.b(3, 5, 6, h));
        due("3 " + h + ": " + x + ", " + y, kit.number(5), want);
        due("N m stays", kit.number(6), y);
    }

    /** "Ints go round; shifts, sums as usual.", "(towards 0; DIVISION by 0)" */
    private static void reckoning() {
        int[] edges = {LEAST, LEAST + 1, -65537, -7, -2, -1, 0, 1, 2, 7, 65536, GREATEST - 1, GREATEST};
        for (int x : edges) {
            for (int y : edges) {
                reckoned(0, x, y, (int) ((long) x + y));
                reckoned(1, x, y, (int) ((long) x - y));
                reckoned(2, x, y, (int) ((long) x * y));
                if (y != 0) {
                    reckoned(3, x, y, (int) ((long) x / y));
                    reckoned(4, x, y, (int) ((long) x % y));
                }
                reckoned(5, x, y, x < y ? 1 : 0);
                reckoned(6, x, y, x == y ? 1 : 0);
            }
        }
        for (int h = 3; h <= 4; h++) {
            for (int x : edges) {
                Kit kit = new Kit();
                kit.run("by 0", 1, DIVISION, 2, Kit.n(5, x), Kit.b(3, 5, 6, h), Kit.n(5, 99));
                due("with DIVISION N n stays", kit.number(5), x);
            }
        }
        Kit kit = new Kit();
        kit.run("of itself", 0, 0, 6, Kit.n(1, 9), Kit.n(2, 9), Kit.n(3, 9), Kit.b(3, 1, 1, 1), Kit.b(3, 2, 2, 3),
            Kit.b(3, 3, 3, 5));
        due("less itself", kit.number(1), 0);
        due("by itself", kit.number(2), 1);
        due("less than itself", kit.number(3), 0);
    }

    // REALS.

    /** "4 r (8 bytes): the real of these bits. 5 r n: R r is N n." */
    private static void aReal() {
        for (long bits : new long[] {0, 1, Long.MIN_VALUE, 0x7FEFFFFFFFFFFFFFL, 0x7FF0000000000000L, 0x0123456789ABCDEFL}) {
            for (int r = 0; r < 4; r++) {
                Kit kit = new Kit();
                kit.run("4", 0, 0, 1, Kit.b(4, r), Kit.eight(bits));
                for (int q = 0; q < 4; q++) {
                    due("R " + q + " behind 4 " + r, kit.real(q), q == r ? bits : 0);
                }
            }
        }
        for (int value : new int[] {0, 1, -1, LEAST, GREATEST, GREATEST - 1}) {
            for (int r = 0; r < 4; r++) {
                Kit kit = new Kit();
                kit.run("5", 0, 0, 2, Kit.n(6, value), Kit.b(5, r, 6));
                dueReal("R r is N n", kit, r, value);
                dueReal("another one stays", kit, (r + 1) % 4, 0.0);
            }
        }
    }

    /** "N n is R r, towards 0 (not a number: 0; beyond: the greatest, the least int)" */
    private static void anIntOfAReal() {
        double[] reals = {
            0.0, -0.0, TINY, -TINY, 0.99999, -0.99999, 1.0, -1.0, 1.5, -1.5, NAN, 2147483646.5, 2147483647.0, 2147483647.5,
            2147483648.0, 4294967296.0, 4294967297.0, MOST, INFINITE, -2147483647.5, -2147483648.0, -2147483648.5,
            -2147483649.0, -4294967297.0, -MOST, -INFINITE,
        };
        int[] ints = {
            0, 0, 0, 0, 0, 0, 1, -1, 1, -1, 0, 2147483646, GREATEST, GREATEST,
            GREATEST, GREATEST, GREATEST, GREATEST, GREATEST, -2147483647, LEAST, LEAST,
            LEAST, LEAST, LEAST, LEAST,
        };
        for (int i = 0; i < reals.length; i++) {
            Kit kit = new Kit();
            kit.run("6", 0, 0, 3, Kit.n(4, 77), Kit.r(1, reals[i]), Kit.b(6, 4, 1));
            due("the int of " + reals[i], kit.number(4), ints[i]);
        }
    }

    private static void paired(int h, double x, double y, double want) {
        Kit kit = new Kit();
        kit.run("7 " + h, 0, 0, 3, Kit.r(2, x), Kit.r(3, y), Kit.b(7, 2, 3, h));
        dueReal("7 " + h + ": " + x + ", " + y, kit, 2, want);
        dueReal("R q stays", kit, 3, y);
    }

    /** "0 +, 1 -, 2 *, 3 /" where they go beyond, under, or to what is not a number. */
    private static void sums() {
        paired(0, MOST, MOST, INFINITE);
        paired(0, MOST, 0x1p969, MOST);
        paired(0, MOST, 0x1p970, INFINITE);
        paired(0, INFINITE, -INFINITE, NAN);
        paired(0, -0.0, -0.0, -0.0);
        paired(0, 0.0, -0.0, 0.0);
        paired(0, 1.5, -1.5, 0.0);
        paired(1, INFINITE, INFINITE, NAN);
        paired(1, 0.0, 0.0, 0.0);
        paired(1, -0.0, 0.0, -0.0);
        paired(1, -MOST, MOST, -INFINITE);
        paired(1, 0x1p-1022, TINY, 0x0.fffffffffffffp-1022);
        paired(2, INFINITE, 0.0, NAN);
        paired(2, MOST, -2.0, -INFINITE);
        paired(2, TINY, 0.5, 0.0);
        paired(2, TINY, -0.5, -0.0);
        paired(2, TINY, 0.75, TINY);
        paired(3, 1.0, 0.0, INFINITE);
        paired(3, 1.0, -0.0, -INFINITE);
        paired(3, 0.0, 0.0, NAN);
        paired(3, INFINITE, INFINITE, NAN);
        paired(3, 1.0, INFINITE, 0.0);
        paired(3, MOST, 0.5, INFINITE);
        paired(3, TINY, 1.0, TINY);
        paired(3, TINY, 2.0, 0.0);
        paired(3, 1.0, 3.0, 1.0 / 3.0);
        paired(3, 10.0, 3.0, 10.0 / 3.0);
        paired(3, 0x1p-1060, 3.0, 0x1p-1060 / 3.0);
        paired(3, 1e-300, 0x1.8p-1060, 1e-300 / 0x1.8p-1060);
        paired(2, 0.1, 0.1, 0.1 * 0.1);
        paired(2, 0x1.8p-1060, 0x1.fp20, 0x1.8p-1060 * 0x1.fp20);
        // What is halfway between two reals goes to the even one, what is more to the next.
        paired(0, 1.0, 0x1p-53, 1.0);
        paired(0, 1.0, Math.nextUp(0x1p-53), Math.nextUp(1.0));
        paired(0, Math.nextUp(1.0), 0x1p-53, 1.0 + 0x2p-52);
        paired(1, 1.0, 0x1p-54, 1.0);
        paired(1, 1.0, Math.nextUp(0x1p-54), Math.nextDown(1.0));
        paired(0, 1.0, TINY, 1.0);
        paired(1, 1.0, TINY, 1.0);
        for (int power = -1150; power <= -1060; power++) {
            double root = Math.scalb(1.0, power / 2);
            double rest = Math.scalb(1.5, power - power / 2);
            paired(2, root, rest, root * rest);
            paired(3, root, 1 / rest, root / (1 / rest));
        }
        for (int h = 0; h < 8; h++) {
            paired(h, NAN, 1.0, NAN);
            paired(h, 1.0, NAN, h == 7 ? 1.0 : NAN);
        }
    }

    /** "4 % (what is left of division towards 0, with the sign of R r)" */
    private static void leftOfDivision() {
        paired(4, 5.5, 2.0, 1.5);
        paired(4, -5.5, 2.0, -1.5);
        paired(4, 5.5, -2.0, 1.5);
        paired(4, -5.5, -2.0, -1.5);
        paired(4, 4.0, 2.0, 0.0);
        paired(4, -4.0, 2.0, -0.0);
        paired(4, 1.0, 2.0, 1.0);
        paired(4, 2.0, 2.0, 0.0);
        paired(4, -0.0, 2.0, -0.0);
        paired(4, 5.0, INFINITE, 5.0);
        paired(4, 5.0, 0.0, NAN);
        paired(4, 5.0, -0.0, NAN);
        paired(4, INFINITE, 5.0, NAN);
        paired(4, MOST, TINY, 0.0);
        paired(4, MOST, 3.0, MOST % 3.0);
        paired(4, 5.0, 3 * TINY, 5.0 % (3 * TINY));
        paired(4, 7 * TINY, 3 * TINY, TINY);
        paired(4, -7 * TINY, 4 * TINY, -3 * TINY);
        paired(4, 0x1p-1022, 0x1.8p-1040, 0x1p-1022 % 0x1.8p-1040);
    }

    /** "5 the greater, 6 the lesser one (of 0.0 and -0.0 0.0 is the greater; not a number, if one is not)" */
    private static void greaterAndLesser() {
        paired(5, 0.0, -0.0, 0.0);
        paired(5, -0.0, 0.0, 0.0);
        paired(5, -0.0, -0.0, -0.0);
        paired(6, 0.0, -0.0, -0.0);
        paired(6, -0.0, 0.0, -0.0);
        paired(6, 0.0, 0.0, 0.0);
        paired(5, -INFINITE, INFINITE, INFINITE);
        paired(6, -INFINITE, INFINITE, -INFINITE);
        paired(5, -1.0, -2.0, -1.0);
        paired(6, -1.0, -2.0, -2.0);
        paired(5, TINY, 0.0, TINY);
        paired(6, -TINY, -0.0, -TINY);
        for (int h = 5; h <= 6; h++) {
            paired(h, NAN, INFINITE, NAN);
            paired(h, -INFINITE, NAN, NAN);
        }
    }

    /** "7 R r's size with the sign of R q (that of 0.0, if R q is not a number)" */
    private static void sizeWithASign() {
        paired(7, 2.5, -0.0, -2.5);
        paired(7, -2.5, 0.0, 2.5);
        paired(7, 0.0, -1.0, -0.0);
        paired(7, -0.0, 1.0, 0.0);
        paired(7, -INFINITE, 1.0, INFINITE);
        paired(7, -2.5, NAN, 2.5);
        paired(7, NAN, -1.0, NAN);
        Kit kit = new Kit();
        // The sign among the bits of what is not a number is no sign.
        kit.run("7 7", 0, 0, 3, Kit.r(0, -2.5), Kit.b(4, 1), Kit.eight(-1L), Kit.b(7, 0, 1, 7));
        dueReal("that of 0.0", kit, 0, 2.5);
    }

    private static void changed(int h, double x, double want) {
        Kit kit = new Kit();
        kit.run("8 " + h, 0, 0, 2, Kit.r(3, x), Kit.b(8, 3, h));
        dueReal("8 " + h + ": " + x, kit, 3, want);
    }

    /** "0 its size, 1 floor, 2 ceiling, 3 the nearest whole (of two the even one), 4 its sign (1.0, -1.0, itself ...)" */
    private static void wholesAndSigns() {
        double[] reals = {
            0.0, -0.0, TINY, -TINY, 0.5, -0.5, 0.49999999999999994, 0.5000000000000001, 1.0, -1.0, 1.5, -1.5, 2.5, -2.5, 3.5,
            1.25, -1.25, 1.75, -1.75, 2.25, 2.75, Math.nextDown(1.5), Math.nextUp(2.5),
            0x1p52 - 0.5, 0x1p52 - 1.5, 0x1p52, 0x1p52 + 1, 0x1p53, -0x1p52 + 0.5, MOST, -MOST, INFINITE, -INFINITE,
        };
        for (double x : reals) {
            changed(0, x, x <= 0.0 ? 0.0 - x : x);
            changed(1, x, Math.floor(x));
            changed(2, x, Math.ceil(x));
            changed(3, x, Math.rint(x));
            changed(4, x, x == 0 ? x : x > 0 ? 1.0 : -1.0);
            changed(8, x, -1.0 * x);
        }
        changed(1, -0.5, -1.0);
        changed(2, -0.5, -0.0);
        changed(3, 0.5, 0.0);
        changed(3, -0.5, -0.0);
        changed(3, 1.5, 2.0);
        changed(3, 2.5, 2.0);
    }

    /** "5 its root" */
    private static void roots() {
        changed(5, 0.0, 0.0);
        changed(5, -0.0, -0.0);
        changed(5, 4.0, 2.0);
        changed(5, 2.0, Math.sqrt(2.0));
        changed(5, Math.nextUp(1.0), 1.0);
        changed(5, Math.nextUp(4.0), Math.sqrt(Math.nextUp(4.0)));
        changed(5, 3 * TINY, Math.sqrt(3 * TINY));
        changed(5, TINY, 0x1p-537);
        changed(5, MOST, 0x1.fffffffffffffp511);
        changed(5, INFINITE, INFINITE);
        changed(5, -TINY, NAN);
        changed(5, -1.0, NAN);
        changed(5, -INFINITE, NAN);
    }

    /** "6 how far it is from its size to the next greater one (of the greatest one 2 to the 971; infinite of infinite)" */
    private static void steps() {
        for (double sign : new double[] {1.0, -1.0}) {
            changed(6, sign * 0.0, TINY);
            changed(6, sign * TINY, TINY);
            changed(6, sign * 0x1p-1022, TINY);
            changed(6, sign * 0x1.fffffffffffffp-1022, TINY);
            changed(6, sign * 0x1p-1021, 2 * TINY);
            changed(6, sign * 0x1p-971, 0x1p-1023);
            changed(6, sign * 0x1p-970, 0x1p-1022);
            changed(6, sign * 0x1p-969, 0x1p-1021);
            changed(6, sign, 0x1p-52);
            changed(6, sign * 0x1.fffffffffffffp-1, 0x1p-53);
            changed(6, sign * MOST, 0x1p971);
            changed(6, sign * INFINITE, INFINITE);
        }
    }

    /** "7 the least real above it (of 0.0 and -0.0 the least that is above 0; of the one ahead of these -0.0; ...)" */
    private static void leastAbove() {
        changed(7, 0.0, TINY);
        changed(7, -0.0, TINY);
        changed(7, -TINY, -0.0);
        changed(7, -2 * TINY, -TINY);
        changed(7, TINY, 2 * TINY);
        changed(7, -INFINITE, -MOST);
        changed(7, MOST, INFINITE);
        changed(7, INFINITE, INFINITE);
        changed(7, -1.0, -0x1.fffffffffffffp-1);
        changed(7, 0x1.fffffffffffffp0, 2.0);
    }

    /** "9 the nearest FLOAT", "(What is not a number stays so in all of 4 to 8.)" */
    private static void nearestFloats() {
        for (int h = 0; h < 10; h++) {
            changed(h, NAN, NAN);
        }
        double half = 0x1.fffffep127 + 0x1p103;
        changed(9, half, INFINITE);
        changed(9, -half, -INFINITE);
        changed(9, Math.nextDown(half), Float.MAX_VALUE);
        changed(9, 0x1p-150, 0.0);
        changed(9, -0x1p-150, -0.0);
        changed(9, Math.nextUp(0x1p-150), 0x1p-149);
        changed(9, 0x3p-150, 0x1p-148);
        changed(9, 0.1, 0.1f);
        changed(9, INFINITE, INFINITE);
        changed(9, -0.0, -0.0);
        changed(9, 0.0, 0.0);
        for (int power = -220; power <= -120; power++) {
            changed(9, Math.scalb(1.0, power), (float) Math.scalb(1.0, power));
            changed(9, Math.scalb(-1.75, power), (float) Math.scalb(-1.75, power));
        }
    }

    /** "N n is 1, else 0, if R r is: 0 <, 1 <=, 2 >, 3 >=, 4 ==, 5 != R q. (As IEEE 754 has it: ...)" */
    private static void compared() {
        double[] reals = {-INFINITE, -MOST, -1.0, -TINY, -0.0, 0.0, TINY, 1.0, Math.nextUp(1.0), MOST, INFINITE, NAN};
        for (double x : reals) {
            for (double y : reals) {
                int[] want = {x < y ? 1 : 0, x <= y ? 1 : 0, x > y ? 1 : 0, x >= y ? 1 : 0, x == y ? 1 : 0, x != y ? 1 : 0};
                for (int h = 0; h < 6; h++) {
                    Kit kit = new Kit();
                    kit.run("9 " + h, 0, 0, 4, Kit.n(7, 5), Kit.r(0, x), Kit.r(3, y), Kit.b(9, 7, 0, 3, h));
                    due("9 " + h + ": " + x + ", " + y, kit.number(7), want[h]);
                }
            }
        }
        Kit kit = new Kit();
        kit.run("unlike itself", 0, 0, 3, Kit.r(2, NAN), Kit.b(9, 1, 2, 2, 5), Kit.b(9, 2, 2, 2, 4));
        due("!= itself", kit.number(1), 1);
        due("== itself", kit.number(2), 0);
    }

    /** R r h R r: both are looked at ahead of what R r becomes. */
    private static void withItself() {
        double[] reals = {2.5, -2.5, 0.0, -0.0, MOST, TINY, INFINITE, NAN};
        for (double x : reals) {
            double[] want = {x + x, x - x, x * x, x / x, x % x, x, x, x};
            for (int h = 0; h < 8; h++) {
                Kit kit = new Kit();
                kit.run("7 " + h + " of itself", 0, 0, 2, Kit.r(1, x), Kit.b(7, 1, 1, h));
                dueReal("7 " + h + " of itself: " + x, kit, 1, want[h]);
            }
        }
    }

    // Things, those of allKinds().

    /** An OP as the only one: the FAULT's kind (0 if there is none), and with a FAULT that all else stays. */
    private static void faults(String what, int kind, Kit kit, int[] op) {
        kit.patch(15, op);
        // Ends without FUEL: the latest run() had no FAULT.
        kit.house.run(14, 0);
        int made = kit.house.look(3);
        long[] before = kit.state();
        due(what, kit.house.run(15, 100), kind == 0 ? 0 : 1);
        due(what + ": kind", kit.house.look(0), kind);
        due(what + ": number", kit.house.look(1), 0);
        if (kind != 0) {
            due(what + ": FUEL", kit.house.look(2), 99);
            due(what + ": MADE", kit.house.look(3), made + 8);
            long[] after = kit.state();
            // But for the FAULT, its FUEL and what is MADE.
            for (int i = 4; i < before.length; i++) {
                due(what + ": all else stays, " + i, after[i], before[i]);
            }
        }
    }

    private static void faults(String what, int kind, int... op) {
        faults(what, kind, allKinds(), op);
    }

    /** As faults, with NOTHING in that SLOT. */
    private static void faultsWithout(String what, int kind, int s, int... op) {
        Kit kit = allKinds();
        kit.does(15, 9, Kit.b(11, s));
        faults(what, kind, kit, op);
    }

    /** "S that has NOTHING where something must be: EMPTY. It is not what it must be: KIND." */
    private static void emptyAndKind() {
        // By OP, with 20 where the SLOT stands: which SLOTS (a is S 0, b is S 1 ..) are what it must be.
        int[][] ops = {
            {17, 7, 20}, {22, 7, 20}, {23, 7, 20, 0}, {25, 7, 20, 0}, {27, 0, 7, 20}, {27, 1, 3, 20}, {27, 2, 7, 20},
            {27, 3, 7, 20}, {28, 0, 20, 7}, {28, 1, 20, 3}, {28, 2, 20, 7}, {29, 5, 3, 20, 0}, {29, 0, 3, 20, 0},
            {29, 1, 3, 20, 0}, {29, 2, 3, 20, 0}, {29, 3, 3, 20, 0}, {29, 4, 3, 20, 0},
        };
        String[] fits = {
            "bcdefghijk", "bcdefghijk", "j", "k", "lmnop", "lmnop", "op", "p", "lmnop", "lmnop", "op", "lmnop", "lmnop",
            "mnop", "op", "mn", "op",
        };
        for (int k = 0; k < ops.length; k++) {
            for (int s = 0; s < 16; s++) {
                int[] op = ops[k].clone();
                for (int i = 0; i < op.length; i++) {
                    op[i] = op[i] == 20 ? s : op[i];
                }
                String what = "OP " + op[0] + " " + op[1] + " of S " + s;
                boolean ok = fits[k].indexOf('a' + s) >= 0;
                // What a CASE weighs is EMPTY, as its INNER is NOTHING.
                boolean asksCase = op[0] == 29 && op[1] < 5 && s == 15;
                if (!asksCase) {
                    faults(what, ok ? 0 : KIND, op);
                }
                faultsWithout(what + ", NOTHING", EMPTY, s, op);
            }
        }
    }

    /** "No such member: BOUNDS." */
    private static void noSuchMember() {
        for (int i : new int[] {-1, 0, 1, 2, 3, 4, LEAST, GREATEST}) {
            int kind = i >= 0 && i < 3 ? 0 : BOUNDS;
            for (int w = 1; w <= 8; w++) {
                faults("19 " + w + ", " + i, kind, with7(i), Kit.b(19, w, 2, w, 7));
                faults("20 " + w + ", " + i, kind, with7(i), Kit.b(20, w, w, 7, 2));
            }
            faults("23, " + i, kind, with7(i), Kit.b(23, 1, 9, 7));
            faults("24, " + i, kind, with7(i), Kit.b(24, 9, 7, 4));
            faults("25, " + i, kind, with7(i), Kit.b(25, 1, 10, 7));
            faults("26, " + i, kind, with7(i), Kit.b(26, 10, 7, 15));
        }
        for (int w = 1; w <= 8; w++) {
            for (int s = 0; s < 16; s++) {
                // KIND is ahead of BOUNDS, EMPTY of both.
                faults("19 " + w + " of S " + s, s == w ? BOUNDS : KIND, Kit.b(19, w, 2, s, 6));
                faults("20 " + w + " of S " + s, s == w ? BOUNDS : KIND, Kit.b(20, w, s, 6, 2));
            }
            faultsWithout("19 of NOTHING", EMPTY, 5, Kit.b(19, w, 2, 5, 6));
            faultsWithout("20 of NOTHING", EMPTY, 5, Kit.b(20, w, 5, 6, 2));
        }
        for (int s = 0; s < 16; s++) {
            faults("23 of S " + s, s == 9 ? BOUNDS : KIND, Kit.b(23, 1, s, 6));
            faults("25 of S " + s, s == 10 ? BOUNDS : KIND, Kit.b(25, 1, s, 6));
        }
        faultsWithout("23 of NOTHING", EMPTY, 5, Kit.b(23, 1, 5, 6));
        faultsWithout("25 of NOTHING", EMPTY, 5, Kit.b(25, 1, 5, 6));
        for (int w = 1; w <= 8; w++) {
            Kit kit = new Kit();
            kit.load(1, Kit.b(w), Kit.four(0));
            faults("19 of a ROW of none", BOUNDS, kit, Kit.b(19, w, 0, 1, 0));
        }
    }

    private static Kit with7(int value) {
        Kit kit = allKinds();
        kit.does(15, 9, Kit.n(7, value));
        return kit;
    }

    /** "In 12 to 14: below 0: NEGATIVE (13: N n or N m)." */
    private static void belowZero() {
        for (int n : new int[] {-1, LEAST, 0, 1}) {
            int kind = n < 0 ? NEGATIVE : 0;
            for (int w = 1; w <= 8; w++) {
                faults("12 of " + n, kind, with7(n), Kit.b(12, 2, w, 7));
            }
            for (int c = 0; c < 5; c++) {
                faults("14 of " + n, kind, with7(n), Kit.b(14, 2, c, 7));
            }
            faults("13 of " + n + " and 0", kind, with7(n), Kit.b(13, 2, 7, 0));
            faults("13 of 0 and " + n, kind, with7(n), Kit.b(13, 2, 0, 7));
            faults("13 of 3 and " + n, kind, with7(n), Kit.b(13, 2, 3, 7));
            faults("13 of -1 and " + n, NEGATIVE, with7(n), Kit.b(13, 2, 6, 7));
        }
        faults("13 of more than there can be and -1", NEGATIVE, with7(GREATEST), Kit.b(13, 2, 7, 6));
        faults("13 of -1 and more than there can be", NEGATIVE, with7(GREATEST), Kit.b(13, 2, 6, 7));
    }

    /** "KIND of S t (the PART), KIND of what goes there, then EMPTY of S t (the PART), then BOUNDS, MEMBER." */
    private static void whatGoesThere() {
        for (int t = 0; t < 16; t++) {
            for (int s = 0; s < 16; s++) {
                faults("24: S " + t + " and S " + s, t == 9 && s == 4 ? 0 : KIND, Kit.b(24, t, 0, s));
                faults("26: S " + t + " and S " + s, t == 10 && s >= 11 ? 0 : KIND, Kit.b(26, t, 0, s));
                faults("28 3: S " + t + " and S " + s, t == 15 && s == 10 ? 0 : KIND, Kit.b(28, 3, t, s));
            }
            // What goes there may be NOTHING.
            int nothing = t == 1 ? 2 : 1;
            faultsWithout("24: S " + t + " and NOTHING", t == 9 ? 0 : KIND, nothing, Kit.b(24, t, 0, nothing));
            faultsWithout("26: S " + t + " and NOTHING", t == 10 ? 0 : KIND, nothing, Kit.b(26, t, 0, nothing));
            faultsWithout("28 3: S " + t + " and NOTHING", t == 15 ? 0 : KIND, nothing, Kit.b(28, 3, t, nothing));
        }
        for (int s = 1; s < 16; s++) {
            int nothing = s == 1 ? 2 : 1;
            faultsWithout("24: NOTHING and S " + s, s == 4 ? EMPTY : KIND, nothing, Kit.b(24, nothing, 6, s));
            faultsWithout("26: NOTHING and S " + s, s >= 11 ? EMPTY : KIND, nothing, Kit.b(26, nothing, 6, s));
            faultsWithout("28 3: NOTHING and S " + s, s == 10 ? EMPTY : KIND, nothing, Kit.b(28, 3, nothing, s));
        }
        faultsWithout("24: NOTHING in NOTHING", EMPTY, 1, Kit.b(24, 1, 6, 1));
        faultsWithout("26: NOTHING in NOTHING", EMPTY, 1, Kit.b(26, 1, 6, 1));
        faultsWithout("28 3: NOTHING in NOTHING", EMPTY, 1, Kit.b(28, 3, 1, 1));
        faults("24: KIND ahead of BOUNDS", KIND, Kit.b(24, 9, 6, 5));
        faults("24: BOUNDS", BOUNDS, Kit.b(24, 9, 6, 4));
        faults("26: KIND ahead of BOUNDS", KIND, Kit.b(26, 10, 6, 4));
        int[][] ops = {{26, 1, 1, 11}, {26, 1, 0, 11}, {26, 1, 0, 15}, {26, 1, 1, 15}};
        int[] kinds = {BOUNDS, MEMBER, 0, BOUNDS};
        for (int i = 0; i < ops.length; i++) {
            Kit kit = allKinds();
            kit.does(15, 9, Kit.b(14, 1, 3, 1));
            faults("26: BOUNDS ahead of MEMBER", kinds[i], kit, ops[i]);
        }
        faultsWithout("24: NOTHING beyond", BOUNDS, 1, Kit.b(24, 9, 3, 1));
        faultsWithout("26: NOTHING beyond", BOUNDS, 1, Kit.b(26, 10, 3, 1));
    }

    /** "21: EMPTY (S s or S t); MEMBER: one is a PART or TROUBLE, the ROWS are of different WIDTHS, or one is a ROW ..." */
    private static void copiesOfOtherKinds() {
        for (int s = 0; s < 16; s++) {
            for (int t = 0; t < 16; t++) {
                boolean rows = s >= 1 && s <= 8 && s == t;
                boolean boxes = s >= 9 && s <= 10 && t >= 9 && t <= 10;
                // N 6 is below 0: MEMBER is ahead of BOUNDS.
                faults("21 from S " + s + " to S " + t, rows || boxes ? BOUNDS : MEMBER, Kit.b(21, s, 6, t, 6, 6));
                faults("21 of none from S " + s + " to S " + t, rows || boxes ? 0 : MEMBER, Kit.b(21, s, 0, t, 0, 0));
            }
            faultsWithout("21 from NOTHING to S " + s, EMPTY, s == 1 ? 2 : 1, Kit.b(21, s == 1 ? 2 : 1, 6, s, 6, 6));
            faultsWithout("21 from S " + s + " to NOTHING", EMPTY, s == 1 ? 2 : 1, Kit.b(21, s, 6, s == 1 ? 2 : 1, 6, 6));
        }
        faultsWithout("21 from NOTHING to itself", EMPTY, 1, Kit.b(21, 1, 0, 1, 0, 0));
    }

    /** "BOUNDS: N i, N j, N k below 0, or more than are there" */
    private static void copiesAtTheirBounds() {
        int[] values = {-1, 0, 1, 2, 3, 4, LEAST, GREATEST};
        for (int i : values) {
            for (int j : values) {
                for (int k : values) {
                    boolean fits = i >= 0 && j >= 0 && k >= 0 && (long) i + k <= 3 && (long) j + k <= 3;
                    for (int s : new int[] {1, 7, 9, 10}) {
                        Kit kit = allKinds();
                        kit.does(15, 9, Kit.n(0, i), Kit.n(1, j), Kit.n(2, k));
                        faults("21 of S " + s + ": " + i + " " + j + " " + k, fits ? 0 : BOUNDS, kit,
                            Kit.b(21, s, 0, s, 1, 2));
                    }
                }
            }
        }
    }

    /** "What overlaps is copied as it was." */
    private static void copiesThatOverlap() {
        for (int w = 1; w <= 10; w++) {
            for (int from = 0; from <= 4; from++) {
                for (int to = 0; to <= 4; to++) {
                    for (int count = 0; count + Math.max(from, to) <= 4; count++) {
                        overlap(w, from, to, count);
                    }
                }
            }
        }
    }

    private static int[] fourMembers(int kind) {
        int[] bytes = {};
        for (int i = 0; i < 4; i++) {
            if (kind == 9) {
                bytes = Kit.join(bytes, Kit.b(4), Kit.four(i), new int[4 * i]);
            } else if (kind == 10) {
                bytes = Kit.join(bytes, Kit.b(11 + i), new int[i < 3 ? 12 : 16]);
            } else {
                bytes = Kit.join(bytes, new int[Model.BYTES[kind] - 1], Kit.b(kind == 8 ? i / 2 : i));
            }
        }
        return bytes;
    }

    private static void overlap(int kind, int from, int to, int count) {
        Kit kit = new Kit();
        due("overlap", kit.load(1, Kit.b(kind), kind == 10 ? Kit.b(0) : Kit.b(), Kit.four(4), fourMembers(kind)), 0);
        kit.run("overlap", 0, 0, 4 + (count > 0 ? 1 : 0), Kit.n(0, from), Kit.n(1, to), Kit.n(2, count),
            Kit.b(21, 1, 0, 1, 1, 2));
        for (int i = 0; i < 4; i++) {
            int was = i >= to && i < to + count ? i - to + from : i;
            due("overlap in " + kind + ": " + from + " " + to + " " + count + ", " + i, kit.member(1, i),
                kind == 8 ? was / 2 : was);
        }
    }

    /** "21 s i t j k: COPY N k members of S s from N i on to S t from N j on." */
    private static void copiesFromOneToAnother() {
        for (int kind = 1; kind <= 10; kind++) {
            for (int from = 0; from <= 4; from++) {
                for (int to = 0; to <= 4; to++) {
                    for (int count = 0; count + Math.max(from, to) <= 4; count++) {
                        copied(kind, from, to, count);
                    }
                }
            }
        }
    }

    private static void copied(int kind, int from, int to, int count) {
        int[] head = Kit.join(Kit.b(kind), kind == 10 ? Kit.b(0) : NO_BYTES, Kit.four(4));
        int[] nothing = kind >= 9 ? new int[4] : new int[4 * Model.BYTES[kind]];
        Kit kit = new Kit();
        due("copied", kit.load(3, head, fourMembers(kind)), 0);
        due("copied", kit.load(12, head, nothing), 0);
        kit.run("copied", 0, 0, 4 + (count > 0 ? 1 : 0), Kit.n(5, from), Kit.n(6, to), Kit.n(4, count), Kit.b(21, 3, 5, 12, 6, 4));
        String what = "21 of kind " + kind + ": " + from + " " + to + " " + count;
        for (int i = 0; i < 4; i++) {
            int was = i >= to && i < to + count ? i - to + from : -1;
            long none = kind >= 9 ? -1 : 0;
            due(what + ", " + i, kit.member(12, i), was < 0 ? none : kind == 8 ? was / 2 : was);
        }
        kit.saved(what + ": S s stays", 3, head, fourMembers(kind));
    }

    /** "one that does not go where it shall is MEMBER: those ahead of it stay copied (NOTHING goes anywhere)" */
    private static void copiesUpToOneThatDoesNotGo() {
        int[] bolt = Kit.join(Kit.b(12), new int[12]);
        int[] plate = Kit.join(Kit.b(14), new int[16]);
        for (int wrong = 0; wrong <= 3; wrong++) {
            Kit kit = new Kit();
            int[] members = {};
            for (int i = 0; i < 3; i++) {
                members = Kit.join(members, i == wrong ? plate : i == 1 ? Kit.b(0) : bolt);
            }
            kit.load(1, Kit.b(10, 0), Kit.four(3), members);
            kit.load(2, Kit.b(10, 1), Kit.four(3), Kit.times(3, Kit.join(Kit.b(13), new int[12])));
            boolean goes = wrong == 3;
            int made = kit.house.look(3);
            kit.run("21 up to " + wrong, goes ? 0 : 1, goes ? 0 : MEMBER, goes ? 3 : 2, Kit.n(3, 3), Kit.b(21, 1, 0, 2, 0, 3));
            due("MADE", kit.house.look(3) - made, goes ? 0 : 8);
            for (int i = 0; i < 3; i++) {
                due("21 up to " + wrong + ", " + i, kit.member(2, i), i >= wrong ? 2 : i == 1 ? -1 : 1);
            }
        }
        // From a GRID to a BOX and back NOTHING alone goes.
        Kit kit = new Kit();
        int[] row = Kit.b(4, 0, 0, 0, 0);
        kit.load(1, Kit.b(9), Kit.four(2), Kit.b(0), row);
        kit.load(2, Kit.b(10, 0), Kit.four(2), bolt, bolt);
        kit.run("a GRID to a BOX", 1, MEMBER, 2, Kit.n(2, 2), Kit.b(21, 1, 0, 2, 0, 2));
        due("NOTHING goes anywhere", kit.member(2, 0), -1);
        due("a ROW does not", kit.member(2, 1), 1);
        kit.run("a BOX to a GRID", 1, MEMBER, 2, Kit.n(2, 2), Kit.b(21, 2, 0, 1, 0, 2));
        due("the ROW stays", kit.member(1, 1), 0);
        kit.run("NOTHING of a BOX to a GRID", 0, 0, 3 + 1, Kit.n(1, 1), Kit.n(2, 0), Kit.b(21, 2, 0, 1, 1, 1));
        due("NOTHING goes anywhere", kit.member(1, 1), -1);
    }

    /** "10 s t: S s is what S t is. 11 s: NOTHING." */
    private static void slotsOfSlots() {
        for (int t = 0; t < 16; t++) {
            int s = (t + 5) % 16;
            Kit kit = allKinds();
            kit.run("10", 0, 0, 1, Kit.b(10, s, t));
            due("10: the same one", kit.house.same(s, t), 1);
            due("10: S t stays", kit.house.slot(t, 0), t == 0 ? 16 : t);
            kit.run("10 of itself", 0, 0, 1, Kit.b(10, t, t));
            due("10 of itself", kit.house.slot(t, 0), t == 0 ? 16 : t);
            kit.run("11", 0, 0, 1, Kit.b(11, t));
            due("11: NOTHING", kit.house.slot(t, 0), 0);
            due("11: others stay", kit.house.slot(s, 0), t == 0 ? 16 : t);
            kit.run("10 and 11 of NOTHING", 0, 0, 2, Kit.b(10, s, t), Kit.b(11, t));
            due("10 of NOTHING", kit.house.slot(s, 0), 0);
            due("both NOTHING", kit.house.same(s, t), 1);
        }
    }

    /** "12 s w n: a new ROW of N n members 0.", "13 ... new ROWS", "14 ... N n members NOTHING", "15 s c: a new PART." */
    private static void newThings() {
        int[][] ops = {
            {12, 2, 1, 4}, {12, 2, 2, 4}, {12, 2, 3, 4}, {12, 2, 4, 4}, {12, 2, 5, 4}, {12, 2, 6, 4}, {12, 2, 7, 4},
            {12, 2, 8, 4}, {13, 2, 4, 3}, {14, 2, 2, 4}, {15, 2, 0}, {15, 2, 4}, {16, 2, 6},
        };
        for (int[] op : ops) {
            Kit kit = allKinds();
            kit.does(15, 9, op, Kit.b(10, 3, 2), op);
            due("OP " + op[0] + " makes a new one each time", kit.house.same(2, 3), 0);
            int size = op[0] <= 14 ? 4 : -1;
            due("OP " + op[0] + ": members", kit.house.slot(2, 1), size);
            for (int i = 0; i < size; i++) {
                due("OP " + op[0] + ", " + i, kit.member(2, i), op[0] == 12 ? 0 : op[0] == 13 ? 3 : -1);
            }
            due("OP " + op[0] + ": CLASS", kit.house.slot(2, 2), op[0] == 14 ? 2 : -1);
        }
    }

    /** "23 s t i: S s is member N i of the GRID S t. ... 25 s t i: ... of the BOX S t." NOTHING, too. */
    private static void membersThatAreNothing() {
        Kit kit = allKinds();
        kit.run("25 of NOTHING", 0, 0, 1, Kit.b(25, 1, 10, 2));
        due("25 of NOTHING", kit.house.slot(1, 0), 0);
        kit.run("24, 23 of NOTHING", 0, 0, 2, Kit.b(24, 9, 2, 1), Kit.b(23, 2, 9, 2));
        due("23 of NOTHING", kit.house.slot(2, 0), 0);
        kit.run("23 into the GRID's own SLOT", 0, 0, 1, Kit.b(23, 9, 9, 1));
        due("a ROW now", kit.house.slot(9, 0) * 10 + kit.house.slot(9, 1), 42);
        kit.run("25 into the BOX's own SLOT", 0, 0, 2, Kit.b(26, 10, 0, 13), Kit.b(25, 10, 10, 0));
        due("a SCREW now", kit.house.same(10, 13), 1);
    }

    /** "17 n s: N n is how many members a ROW, GRID or BOX has." */
    private static void howManyMembers() {
        for (int kind = 1; kind <= 10; kind++) {
            for (int size : new int[] {0, 1, 255, 256, 1990}) {
                Kit kit = new Kit();
                kit.does(0, 9000, Kit.n(0, size), kind <= 8 ? Kit.b(12, 13, kind, 0) : kind == 9 ? Kit.b(13, 13, 0, 7)
                    : Kit.b(14, 13, 3, 0));
                kit.run("17", 0, 0, 3, Kit.n(2, 22), Kit.n(5, 55), Kit.b(17, 2, 13));
                due("17 of kind " + kind, kit.number(2), size);
                due("others stay", kit.number(5), 55);
            }
        }
    }

    /** "18 n s h: N n is 1, else 0, if S s is: ..." */
    private static void whatASlotIs() {
        String[] kinds = {
            "", "b", "c", "d", "e", "f", "g", "h", "i", "j", "k", "lmnop", "mn", "n", "op", "p", "a", "mnop", "op", "",
        };
        for (int h = 0; h < 20; h++) {
            Kit kit = allKinds();
            for (int s = 0; s < 16; s++) {
                kit.run("18", 0, 0, 2, Kit.n(7, 9), Kit.b(18, 7, s, h));
                due("18 " + h + " of S " + s, kit.number(7), kinds[h].indexOf('a' + s) >= 0 ? 1 : 0);
            }
            kit.run("18", 0, 0, 3, Kit.n(7, 9), Kit.b(11, 3), Kit.b(18, 7, 3, h));
            due("18 " + h + " of NOTHING", kit.number(7), h == 0 ? 1 : 0);
            for (int c = 0; c < 5; c++) {
                kit.run("18", 0, 0, 3, Kit.n(7, 9), Kit.b(14, 3, c, 0), Kit.b(18, 7, 3, h));
                due("18 " + h + " of a BOX of " + c, kit.number(7), h == 10 || h == 19 && (c == 1 || c == 2) ? 1 : 0);
            }
        }
    }

    /** "22 s t: S s is a CLONE of S t: a new one with the same members." */
    private static void clones() {
        for (int s = 1; s <= 10; s++) {
            Kit kit = allKinds();
            kit.load(1, Kit.b(s), s == 10 ? Kit.b(0) : Kit.b(), Kit.four(4), fourMembers(s));
            kit.run("22", 0, 0, 2 + 1, Kit.b(10, 3, 1), Kit.b(22, 2, 1));
            due("a new one", kit.house.same(2, 1), 0);
            due("S t stays", kit.house.same(3, 1), 1);
            due("its kind", kit.house.slot(2, 0), s);
            due("its CLASS", kit.house.slot(2, 2), kit.house.slot(1, 2));
            for (int i = 0; i < 4; i++) {
                due("the same members", kit.member(2, i), kit.member(1, i));
            }
            kit.run("22 of itself", 0, 0, 1 + 1, Kit.b(22, 3, 3));
            due("a new one", kit.house.same(3, 1), 0);
        }
        Kit kit = allKinds();
        kit.run("members of a CLONE", 0, 0, 5 + 1, Kit.b(22, 1, 9), Kit.b(23, 2, 9, 1), Kit.b(23, 3, 1, 1), Kit.b(24, 1, 0, 4),
            Kit.b(20, 4, 2, 0, 5));
        due("ROWS of a GRID are the same ones", kit.house.same(2, 3), 1);
        due("so one has what the other gets", kit.member(3, 0), 5);
        due("but the GRIDS are two", kit.member(9, 0), 2);
        for (int size : new int[] {0, 1, 9}) {
            kit = new Kit();
            kit.run("of " + size, 0, 0, 3 + 2 * ((size + 7) / 8), Kit.n(0, size), Kit.b(12, 0, 3, 0), Kit.b(22, 1, 0));
            due("of " + size, kit.house.slot(1, 1), size);
        }
    }

    /** "27 h n s: of the PART S s h 0 COUNT goes to N n, 1 WEIGHT to R n (0 to 3), ...", "28 h s n: likewise N n, R n, S n becomes it" */
    private static void fieldsFromAndToEachPlace() {
        for (int s = 0; s < 16; s++) {
            for (int n = 0; n < 8; n++) {
                Kit kit = new Kit();
                kit.run("28 of ints", 0, 0, 6, Kit.b(15, s, 4), Kit.n(n, 500 + n), Kit.b(28, 0, s, n), Kit.n(n, -9 - n), Kit.b(28, 2, s, n),
                    Kit.n(n, 0));
                due("28 0 from N " + n, kit.member(s, 0), 500 + n);
                due("28 2 from N " + n, kit.member(s, 2), -9 - n);
                kit.run("27 0", 0, 0, 1, Kit.b(27, 0, n, s));
                due("27 0 to N " + n, kit.number(n), 500 + n);
                kit.run("27 2", 0, 0, 1, Kit.b(27, 2, n, s));
                due("27 2 to N " + n, kit.number(n), -9 - n);
                due("others stay", kit.number((n + 1) % 8), 0);
            }
            for (int r = 0; r < 4; r++) {
                Kit kit = new Kit();
                kit.run("28 of reals", 0, 0, 4, Kit.b(15, s, 0), Kit.r(r, 0.5 + r), Kit.b(28, 1, s, r), Kit.r(r, 0.0));
                due("28 1 from R " + r, kit.member(s, 1), Double.doubleToLongBits(0.5 + r));
                kit.run("27 1", 0, 0, 1, Kit.b(27, 1, r, s));
                dueReal("27 1 to R " + r, kit, r, 0.5 + r);
                dueReal("others stay", kit, (r + 1) % 4, 0.0);
            }
            int box = (s + 3) % 16;
            for (int t = 0; t < 16; t++) {
                Kit kit = new Kit();
                kit.run("28 and 27 of INNER", 0, 0, 4, Kit.b(15, s, 4), Kit.b(14, box, 2, 0), Kit.b(28, 3, s, box), Kit.b(27, 3, t, s));
                due("27 3 to S " + t, kit.house.same(t, box), 1);
                due("its CLASS", kit.house.slot(t, 2), 2);
            }
        }
    }

    /** "17, 22 of PARTS, TROUBLES: KIND. 12 to 16, 22: FULL behind all these, ahead of what is made." */
    private static void fullBehindTheFaults() {
        // Room for a FAULT and nothing else that is asked for.
        int[][] ops = {
            {12, 1, 1, 6}, {13, 1, 6, 7}, {13, 1, 7, 6}, {14, 1, 0, 6}, {22, 1, 0}, {22, 1, 11}, {22, 1, 14},
        };
        int[] kinds = {NEGATIVE, NEGATIVE, NEGATIVE, NEGATIVE, KIND, KIND, KIND};
        for (int i = 0; i < ops.length; i++) {
            for (int room = 7; room <= 8; room++) {
                Kit kit = allKinds();
                kit.fillTo(40000 - room);
                kit.does(15, 9, Kit.n(7, 50000));
                due("OP " + ops[i][0] + " with room for " + room, kit.does(15, 9, ops[i]), room == 8 ? 1 : 3);
                due("its kind", kit.house.look(0), room == 8 ? kinds[i] : 0);
            }
        }
        for (int[] op : new int[][] {{12, 1, 1, 7}, {13, 1, 7, 0}, {13, 1, 1, 7}, {14, 1, 0, 7}}) {
            Kit kit = allKinds();
            kit.does(15, 9, Kit.n(7, 50000));
            due("FULL ahead of what is made", kit.does(15, 9, op), 3);
            due("S s stays", kit.house.slot(1, 0), 1);
            due("FUEL of the OP alone", kit.house.look(2), 8);
        }
        for (int[] op : new int[][] {{15, 1, 0}, {16, 1, 0}, {22, 1, 9}}) {
            Kit kit = allKinds();
            kit.fillTo(39997);
            due("FULL ahead of what is made", kit.does(15, 9, op), 3);
            due("S s stays", kit.house.slot(1, 0), 1);
            due("FUEL of the OP alone", kit.house.look(2), 8);
        }
    }

    /** "34 s: the TROUBLE S s is told." */
    private static void told() {
        for (int number : new int[] {0, 1, -1, LEAST, GREATEST}) {
            Kit kit = new Kit();
            kit.run("34", 1, 7, 4, Kit.n(1, number), Kit.b(16, 2, 1), Kit.n(1, 5), Kit.b(34, 2), Kit.n(3, 3));
            due("its number", kit.house.look(1), number);
            due("nothing behind it", kit.number(3), 0);
            due("the TROUBLE stays", kit.member(2, 0), number);
        }
        for (int s = 1; s < 16; s++) {
            faults("34 of S " + s, KIND, Kit.b(34, s));
        }
        faultsWithout("34 of NOTHING", EMPTY, 3, Kit.b(34, 3));
    }

    public static void main(String[] args) {
        anInt();
        reckoning();
        aReal();
        anIntOfAReal();
        sums();
        leftOfDivision();
        greaterAndLesser();
        sizeWithASign();
        wholesAndSigns();
        roots();
        steps();
        leastAbove();
        nearestFloats();
        compared();
        withItself();
        emptyAndKind();
        noSuchMember();
        belowZero();
        whatGoesThere();
        copiesOfOtherKinds();
        copiesAtTheirBounds();
        copiesThatOverlap();
        copiesFromOneToAnother();
        copiesUpToOneThatDoesNotGo();
        slotsOfSlots();
        newThings();
        membersThatAreNothing();
        howManyMembers();
        whatASlotIs();
        clones();
        fieldsFromAndToEachPlace();
        fullBehindTheFaults();
        told();
        Kit.finish();
    }
}
