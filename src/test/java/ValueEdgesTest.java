/** The sentences of PART 1, VALUES: WIDTHS, CLASSES, what PARTS tell, MADE and FULL. */
public final class ValueEdgesTest extends Checks {
    // ROWS.

    /** Puts the number into a ROW of that WIDTH, and takes it out again. */
    private static void keeps(int width, int value, long told) {
        Kit kit = new Kit();
        kit.run("WIDTH " + width, 0, 0, 4 + 1, Kit.n(0, 1), Kit.n(1, value), Kit.b(12, 0, width, 0),
            Kit.b(20, width, 0, 7, 1));
        due(value + " in WIDTH " + width, kit.member(0, 0), told);
        kit.run("WIDTH " + width, 0, 0, 1, Kit.b(19, width, 2, 0, 7));
        due(value + " out of WIDTH " + width, kit.number(2), (int) told);
    }

    /** "1 BYTES (8 bits), 2 CHARS (16, from 0 on), 3 SHORTS, 4 INTS, 5 LONGS, ... 8 BITS (0 or 1)" */
    private static void widthsOfNumbers() {
        int[][] values = {
            {}, {-128, -129, 127, 128, 255, 256, -1}, {0, -1, 65535, 65536, 32768, 65537}, {-32768, -32769, 32767, 32768, 65535},
            {LEAST, GREATEST, -1}, {LEAST, GREATEST, -1}, {}, {}, {0, 1, 2, 3, -1, -2, LEAST, GREATEST},
        };
        long[][] told = {
            {}, {-128, 127, 127, -128, -1, 0, -1}, {0, 65535, 65535, 0, 32768, 1}, {-32768, 32767, 32767, -32768, -1},
            {LEAST, GREATEST, -1}, {LEAST, GREATEST, -1}, {}, {}, {0, 1, 0, 1, 1, 0, 0, 1},
        };
        for (int width = 1; width <= 8; width++) {
            for (int i = 0; i < values[width].length; i++) {
                keeps(width, values[width][i], told[width][i]);
            }
        }
    }

    /** "of LONGS the lowest 32 bits" */
    private static void lowestBitsOfLongs() {
        long[] values = {0x100000000L, 0x1FFFFFFFFL, 0x7FFFFFFF80000000L, Long.MIN_VALUE, Long.MAX_VALUE};
        int[] want = {0, -1, LEAST, 0, -1};
        for (int i = 0; i < values.length; i++) {
            Kit kit = new Kit();
            kit.load(0, Kit.b(5), Kit.four(1), Kit.eight(values[i]));
            due("the number of LONGS is whole", kit.member(0, 0), values[i]);
            kit.run("LONGS", 0, 0, 2, Kit.n(1, 5), Kit.b(19, 5, 1, 0, 7));
            due("the lowest 32 bits", kit.number(1), want[i]);
        }
    }

    /** "FLOATS the nearest one" */
    private static void floatsAtTheirBounds() {
        double greatest = Float.MAX_VALUE;
        double half = greatest + Math.ulp(Float.MAX_VALUE) / 2;
        double[] values = {
            greatest, Math.nextDown(half), half, Double.MAX_VALUE, INFINITE, -half, Double.NaN, Float.MIN_VALUE,
            Float.MIN_VALUE / 2.0, Math.nextUp(Float.MIN_VALUE / 2.0), -Float.MIN_VALUE / 2.0, Double.MIN_VALUE, -0.0,
            Float.MIN_NORMAL, Math.nextDown((double) Float.MIN_NORMAL), 1 + 0x1p-24, 1 + 0x3p-24, 1 + 0x1.000001p-24, 0.0,
        };
        int[] bits = {
            0x7F7FFFFF, 0x7F7FFFFF, 0x7F800000, 0x7F800000, 0x7F800000, 0xFF800000, 0x7FC00000, 1,
            0, 1, 0x80000000, 0, 0x80000000,
            0x00800000, 0x00800000, 0x3F800000, 0x3F800002, 0x3F800001, 0,
        };
        for (int i = 0; i < values.length; i++) {
            Kit kit = new Kit();
            kit.run("FLOATS", 0, 0, 5 + 1, Kit.n(0, 1), Kit.r(1, values[i]), Kit.b(12, 0, 6, 0), Kit.b(20, 6, 0, 7, 1),
                Kit.b(19, 6, 2, 0, 7));
            due("the nearest FLOAT to " + values[i], kit.member(0, 0), bits[i]);
            dueReal("it goes to R n", kit, 2, Float.intBitsToFloat(bits[i]));
            dueReal("R n itself stays", kit, 1, values[i]);
        }
    }

    /** "of FLOATS, DOUBLES to R n, n 0 to 3": DOUBLES keep all of it. */
    private static void doublesAtTheirBounds() {
        double[] values = {0.0, -0.0, Double.MIN_VALUE, -Double.MIN_VALUE, Double.MAX_VALUE, INFINITE, -INFINITE, 0.1, Double.NaN};
        for (double value : values) {
            for (int r = 0; r < 4; r++) {
                Kit kit = new Kit();
                kit.run("DOUBLES", 0, 0, 4 + 1, Kit.n(6, 3), Kit.b(12, 5, 7, 6), Kit.n(6, 2), Kit.r(r, value));
                kit.run("DOUBLES", 0, 0, 3, Kit.b(20, 7, 5, 6, r), Kit.r(r, 7.0), Kit.b(19, 7, 3 - r, 5, 6));
                due("20 of DOUBLES", kit.member(5, 2), Double.doubleToLongBits(value));
                due("others stay", kit.member(5, 1), 0);
                dueReal("19 of DOUBLES", kit, 3 - r, value);
                dueReal("others stay", kit, r, 7.0);
            }
        }
    }

    /** "Reals that are not a number have the bits 0x7FF8000000000000 (FLOATS 0x7FC00000) wherever bits are told." */
    private static void notANumber() {
        long[] all = {0x7FF0000000000001L, 0x7FF8000000000001L, 0x7FFFFFFFFFFFFFFFL, 0xFFF0000000000001L, -1L};
        int[] floats = {0x7F800001, 0x7FC00001, 0x7FFFFFFF, 0xFF800001, -1};
        for (int i = 0; i < all.length; i++) {
            Kit kit = new Kit();
            kit.run("OP 4", 0, 0, 6 + 1, Kit.b(4, 0), Kit.eight(all[i]), Kit.n(0, 1), Kit.b(12, 0, 7, 0),
                Kit.b(20, 7, 0, 7, 0), Kit.b(15, 1, 0), Kit.b(28, 1, 1, 0));
            due("real()", kit.real(0), 0x7FF8000000000000L);
            due("member() of DOUBLES", kit.member(0, 0), 0x7FF8000000000000L);
            due("member() of a PART", kit.member(1, 1), 0x7FF8000000000000L);
            due("load of DOUBLES", kit.load(2, Kit.b(7), Kit.four(1), Kit.eight(all[i])), 0);
            due("member() of what was loaded", kit.member(2, 0), 0x7FF8000000000000L);
            kit.saved("DOUBLES", 2, Kit.b(7), Kit.four(1), Kit.eight(0x7FF8000000000000L));
            due("load of FLOATS", kit.load(3, Kit.b(6), Kit.four(1), Kit.four(floats[i])), 0);
            due("member() of FLOATS", kit.member(3, 0), 0x7FC00000);
            kit.saved("FLOATS", 3, Kit.b(6), Kit.four(1), Kit.four(0x7FC00000));
            due("load of a PART", kit.load(4, Kit.b(11), Kit.four(3), Kit.eight(all[i])), 0);
            due("member() of a PART", kit.member(4, 1), 0x7FF8000000000000L);
            kit.saved("a PART", 4, Kit.b(11), Kit.four(3), Kit.eight(0x7FF8000000000000L));
            kit.run("19 of FLOATS", 0, 0, 2, Kit.b(4, 3), new int[8], Kit.b(19, 6, 3, 3, 7));
            due("real() of a FLOAT", kit.real(3), 0x7FF8000000000000L);
        }
        // The nearest bits to those of what is not a number are told as they are.
        for (long bits : new long[] {0x7FF0000000000000L, 0xFFF0000000000000L, 0x7FEFFFFFFFFFFFFFL, 0xFFEFFFFFFFFFFFFFL}) {
            Kit kit = new Kit();
            kit.load(2, Kit.b(7), Kit.four(1), Kit.eight(bits));
            due("a number's bits", kit.member(2, 0), bits);
        }
        for (int bits : new int[] {0x7F800000, 0xFF800000, 0x7F7FFFFF, 0xFF7FFFFF}) {
            Kit kit = new Kit();
            kit.load(2, Kit.b(6), Kit.four(1), Kit.four(bits));
            due("a FLOAT's bits", kit.member(2, 0), bits);
        }
    }

    /** "All but NOTHING are things of their own: SLOTS and members may have the same one." */
    private static void thingsOfTheirOwn() {
        Kit kit = new Kit();
        // S 0 a ROW of INTS, in both members of the GRID S 1; S 2 a CASE in both of the BOX S 3, its own INNER.
        kit.run("the same one", 0, 0, 12 + 3, Kit.n(0, 2), Kit.n(1, 1), Kit.b(12, 0, 4, 0), Kit.b(13, 1, 0, 7),
            Kit.b(24, 1, 7, 0), Kit.b(24, 1, 1, 0), Kit.b(15, 2, 4), Kit.b(14, 3, 0, 1), Kit.b(26, 3, 7, 2),
            Kit.b(28, 3, 2, 3), Kit.b(23, 4, 1, 7), Kit.b(23, 5, 1, 1));
        due("a ROW from both members", kit.house.same(4, 5), 1);
        due("and from the SLOT", kit.house.same(4, 0), 1);
        kit.run("the same one", 0, 0, 5, Kit.b(20, 4, 4, 1, 0), Kit.b(27, 3, 6, 2), Kit.b(25, 7, 6, 7),
            Kit.b(28, 0, 7, 0), Kit.b(11, 0));
        due("what one puts there the others have", kit.member(5, 1), 2);
        due("INNER is the BOX", kit.house.same(6, 3), 1);
        due("its member is the CASE", kit.house.same(7, 2), 1);
        due("what one puts there the other has", kit.member(2, 0), 2);
        due("a SLOT that has NOTHING now leaves the others", kit.house.same(4, 5), 1);
        kit.run("alike", 0, 0, 2 + 2, Kit.b(12, 8, 1, 0), Kit.b(12, 9, 1, 0));
        due("alike is not the same one", kit.house.same(8, 9), 0);
    }

    // CLASSES.

    /** "All have COUNT (an int) and WEIGHT (a real), PLATE and CASE a PRICE (an int), CASE an INNER" */
    private static void fieldsOfEachClass() {
        for (int c = 0; c < 5; c++) {
            for (int h = 0; h < 4; h++) {
                boolean has = h < 2 || h == 2 && c >= 3 || c == 4;
                Kit kit = new Kit();
                kit.run("a new PART", 0, 0, 4, Kit.b(15, 0, c), Kit.n(3, 99), Kit.r(3, 9.5), Kit.b(15, 3, 0));
                kit.run("27 " + h + " of CLASS " + c, has ? 0 : 1, has ? 0 : KIND, 1, Kit.b(27, h, 3, 0));
                due("(At first 0, 0.0, 0, NOTHING.)", kit.number(3), has && h % 2 == 0 ? 0 : 99);
                dueReal("(At first 0, 0.0, 0, NOTHING.)", kit, 3, has && h == 1 ? 0.0 : 9.5);
                due("(At first 0, 0.0, 0, NOTHING.)", kit.house.slot(3, 0), has && h == 3 ? 0 : 11);
                kit.run("28 " + h + " of CLASS " + c, has ? 0 : 1, has ? 0 : KIND, 2, Kit.b(11, 3), Kit.b(28, h, 0, 3));
            }
        }
        Kit kit = new Kit();
        for (int value : new int[] {LEAST, GREATEST, -1, 0}) {
            kit.run("an int", 0, 0, 4, Kit.b(15, 0, 4), Kit.n(1, value), Kit.b(28, 0, 0, 1), Kit.b(28, 2, 0, 1));
            due("COUNT is an int", kit.member(0, 0), value);
            due("PRICE is an int", kit.member(0, 2), value);
        }
    }

    /** "BOXES (10) of a CLASS: their members are PARTS of it (or of one below it) or NOTHING" */
    private static void whatGoesIntoABox() {
        String[] below = {"01234", "12", "2", "34", "4"};
        for (int box = 0; box < 5; box++) {
            for (int c = 0; c < 5; c++) {
                boolean fits = below[box].indexOf('0' + c) >= 0;
                String what = "CLASS " + c + " in a BOX of " + box;
                Kit kit = new Kit();
                kit.run(what, fits ? 0 : 1, fits ? 0 : MEMBER, 4 + 1, Kit.n(1, 1), Kit.b(14, 0, box, 1), Kit.b(15, 1, c),
                    Kit.b(26, 0, 0, 1));
                due(what, kit.member(0, 0), fits ? c : -1);
                kit.run(what + ", NOTHING", 0, 0, 2, Kit.b(11, 2), Kit.b(26, 0, 0, 2));
                due(what + ", NOTHING", kit.member(0, 0), -1);
                kit.run(what + ", copied", fits ? 0 : 1, fits ? 0 : MEMBER, 3 + 1 + (fits ? 1 : 0), Kit.b(14, 3, 0, 1),
                    Kit.b(26, 3, 0, 1), Kit.b(21, 3, 0, 0, 0, 1));
                due(what + ", copied", kit.member(0, 0), fits ? c : -1);
                int[] part = Kit.join(Kit.b(11 + c), new int[c < 3 ? 12 : 16], c == 4 ? Kit.b(0) : NO_BYTES);
                due(what + ", loaded", kit.load(5, Kit.b(10, box), Kit.four(1), part), fits ? 0 : MEMBER);
                due(what + ", loaded", kit.house.slot(5, 0), fits ? 10 : 0);
            }
        }
    }

    // What PARTS tell.

    /** Asks h of the PART in S 0 with N 1, into R 0 and R 3. */
    private static void asked(String what, Kit kit, int h, double want) {
        due(what, kit.does(0, 100, Kit.b(29, h, 0, 0, 1), Kit.b(29, h, 3, 0, 1)), 0);
        dueReal(what, kit, 0, want);
        dueReal(what, kit, 3, want);
        dueReal("others stay", kit, 1, 0.0);
    }

    private static Kit part(int c, int count, double weight, int price, int n) {
        Kit kit = new Kit();
        kit.does(0, 100, Kit.b(15, 0, c), Kit.n(2, count), Kit.b(28, 0, 0, 2), Kit.r(2, weight), Kit.b(28, 1, 0, 2),
            Kit.n(1, n));
        if (c >= 3) {
            kit.does(0, 100, Kit.n(3, price), Kit.b(28, 2, 0, 3));
        }
        if (c == 4) {
            kit.does(0, 100, Kit.b(14, 15, 0, 7), Kit.b(28, 3, 0, 15));
        }
        return kit;
    }

    /** "of PART, BOLT, PLATE its WEIGHT; of SCREW that and 0.25 times COUNT more" */
    private static void whatOneWeighs() {
        for (double weight : new double[] {0.0, -0.0, -2.5, Double.MAX_VALUE, Double.MIN_VALUE, INFINITE, Double.NaN}) {
            for (int count : new int[] {0, 1, -1, 3, LEAST, GREATEST}) {
                for (int c : new int[] {0, 1, 3}) {
                    asked("CLASS " + c + " weighs", part(c, count, weight, 7, 1), 0, weight);
                }
                asked("a SCREW weighs", part(2, count, weight, 7, 1), 0, weight + 0.25 * count);
                asked("a CASE with an empty BOX weighs", part(4, count, weight, 7, 1), 0, weight);
            }
        }
    }

    /** "of CASE its WEIGHT, then more by what each member of INNER weighs, in order (EMPTY, if INNER or a member ...)" */
    private static void whatACaseWeighs() {
        double[] weights = {1e16, 1.0, 1.0, -1e16};
        Kit kit = new Kit();
        // S 0 the CASE, S 1 its BOX of four BOLTS; N 1 counts.
        kit.does(0, 100, Kit.n(4, 4), Kit.b(15, 0, 4), Kit.b(14, 1, 1, 4), Kit.r(0, 1.0), Kit.b(28, 1, 0, 0));
        kit.run("INNER is NOTHING", 1, EMPTY, 2, Kit.b(29, 0, 1, 0, 1));
        kit.run("INNER", 0, 0, 1, Kit.b(28, 3, 0, 1));
        kit.run("the first member is NOTHING", 1, EMPTY, 2, Kit.b(29, 0, 1, 0, 1));
        for (int i = 0; i < 4; i++) {
            kit.run("a BOLT", 0, 0, 5, Kit.n(1, i), Kit.b(15, 2, 1), Kit.r(0, weights[i]), Kit.b(28, 1, 2, 0),
                Kit.b(26, 1, 1, 2));
            int kind = i < 3 ? EMPTY : 0;
            kit.run("up to member " + i, kind == 0 ? 0 : 1, kind, 1 + 1 + i + 1, Kit.b(29, 0, 1, 0, 1));
        }
        dueReal("in order", kit, 1, 1.0 + 1e16 + 1.0 + 1.0 - 1e16);
        kit.run("NOTHING between", 1, EMPTY, 5 + 2, Kit.r(1, 5.5), Kit.n(1, 1), Kit.b(11, 2), Kit.b(26, 1, 1, 2),
            Kit.b(29, 0, 1, 0, 1));
        dueReal("with a FAULT R r stays", kit, 1, 5.5);
    }

    private static int[] form(int c, int count, double weight, int price) {
        return Kit.join(Kit.b(11 + c), Kit.four(count), Kit.bits(weight), c >= 3 ? Kit.four(price) : NO_BYTES);
    }

    /** "more by what each member of INNER weighs": each by its own CLASS, CASES in CASES too; and the LOAD of such a CASE. */
    private static void membersOfEachClass() {
        int[] innermost = Kit.join(form(4, 5, 32.0, 9), Kit.b(10, 2), Kit.four(2), form(2, 6, 64.0, 0), form(2, -2, 128.0, 0));
        double inner = 32.0 + (64.0 + 1.5) + (128.0 - 0.5);
        int[] all = Kit.join(form(4, 7, 1.0, 100), Kit.b(10, 0), Kit.four(6), form(0, 3, 2.0, 0), form(1, 3, 4.0, 0),
            form(2, 3, 8.0, 0), form(3, 3, 16.0, 50), innermost, form(0, 0, -0.125, 0));
        double weighs = 1.0 + 2.0 + 4.0 + (8.0 + 0.75) + 16.0 + inner - 0.125;
        Kit kit = new Kit();
        due("a CASE of all CLASSES", kit.load(0, all), 0);
        kit.run("it weighs", 0, 0, 1 + 1 + 6 + 2, Kit.b(29, 0, 1, 0, 0));
        dueReal("it weighs", kit, 1, weighs);
        for (int h : new int[] {1, 2, 4}) {
            kit.run("its LOAD", 0, 0, 2 + 1 + 6 + 2, Kit.n(2, 3), Kit.b(29, h, 1, 0, 2));
            dueReal("its LOAD as " + h, kit, 1, 3 * weighs + 3 * 100.0 + 1.0);
        }
        // The same BOX as INNER of two CASES weighs in both.
        kit.run("the same INNER", 0, 0, 4 + 1 + 6 + 2, Kit.b(15, 1, 4), Kit.b(27, 3, 2, 0), Kit.b(28, 3, 1, 2), Kit.b(29, 0, 2, 1, 0));
        dueReal("the same INNER", kit, 2, weighs - 1.0);
    }

    /** "LOAD of n: of what is WEIGHED n times what it weighs, of what is PRICED n times PRICE; ..." */
    private static void loads() {
        for (int n : new int[] {0, 1, -1, 3, 65536, LEAST, GREATEST}) {
            for (double weight : new double[] {0.0, -0.0, 1.5, -1e300, INFINITE, Double.NaN}) {
                for (int price : new int[] {0, 1, -7, 65536, LEAST, GREATEST}) {
                    double weighed = n * weight;
                    double plate = weighed + (double) n * price;
                    asked("a BOLT's as WEIGHED", part(1, 9, weight, 0, n), 1, weighed);
                    Kit bolt = part(2, 9, weight, 0, n);
                    asked("a SCREW's as WEIGHED", bolt, 1, n * (weight + 0.25 * 9));
                    asked("a SCREW's own, as a BOLT", bolt, 3, n * (weight + 0.25 * 9));
                    Kit kit = part(3, 9, weight, price, n);
                    asked("a PLATE's as WEIGHED", kit, 1, plate);
                    asked("a PLATE's as PRICED", kit, 2, plate);
                    asked("a PLATE's own", kit, 4, plate);
                    kit = part(4, 9, weight, price, n);
                    asked("a CASE's as WEIGHED", kit, 1, plate + 1.0);
                    asked("a CASE's as PRICED", kit, 2, plate + 1.0);
                    asked("a CASE's own, as a PLATE", kit, 4, plate + 1.0);
                }
            }
        }
    }

    /** "BOLTS, SCREWS, PLATES, CASES are WEIGHED, PLATES and CASES PRICED.", and "LABEL" */
    private static void whoCanBeAsked() {
        String[] can = {"05", "0135", "0135", "01245", "01245"};
        double[] labels = {1, 12, 123, 1, 51};
        for (int c = 0; c < 5; c++) {
            for (int h = 0; h < 6; h++) {
                boolean asked = can[c].indexOf('0' + h) >= 0;
                Kit kit = part(c, 0, 0, 0, 0);
                kit.run("29 " + h + " of CLASS " + c, asked ? 0 : 1, asked ? 0 : KIND, 2 + (asked && h < 5 ? 1 : 0),
                    Kit.r(2, 7.5), Kit.b(29, h, 2, 0, 0));
                due("with a FAULT R r stays", asked ? 0 : kit.real(2), asked ? 0 : Double.doubleToLongBits(7.5));
            }
            asked("LABEL of CLASS " + c, part(c, 0, 0, 0, 0), 5, labels[c]);
            Kit kit = part(c, 0, 0, 0, 0);
            kit.run("18 17, 18 18", 0, 0, 2, Kit.b(18, 4, 0, 17), Kit.b(18, 5, 0, 18));
            due("WEIGHED", kit.number(4), c > 0 ? 1 : 0);
            due("PRICED", kit.number(5), c > 2 ? 1 : 0);
        }
        Kit kit = new Kit();
        kit.does(0, 10, Kit.b(15, 0, 4));
        kit.run("LABEL needs no INNER", 0, 0, 1, Kit.b(29, 5, 0, 0, 0));
        for (int h = 1; h <= 4; h++) {
            int kind = h == 3 ? KIND : EMPTY;
            kit.run("LOAD needs INNER", 1, kind, kind == EMPTY ? 2 : 1, Kit.b(29, h, 0, 0, 0));
        }
    }

    // MADE.

    /** INTS, a GRID and a BOX of 5 members in S 8 to S 10, a CASE in S 11, a TROUBLE in S 12. */
    private static Kit thingsToMakeWith() {
        Kit kit = new Kit();
        kit.does(0, 1000, Kit.n(1, 1), Kit.n(5, 5), Kit.b(12, 8, 4, 5), Kit.b(13, 9, 5, 5), Kit.b(14, 10, 4, 5),
            Kit.b(15, 11, 4), Kit.b(16, 12, 5), Kit.n(6, -1));
        due("MADE to begin with", kit.house.look(3), 6 + (1 + 5 + 5 * 6) + 6 + 4 + 4);
        return kit;
    }

    private static void makes(String what, int cost, int[]... ops) {
        Kit kit = thingsToMakeWith();
        int[] bytes = Kit.join(ops);
        int made = kit.house.look(3);
        kit.does(1, 1000, bytes);
        due("MADE by " + what, kit.house.look(3) - made, cost);
        // One less than it costs is no room for it, just so much is.
        fullBehind(what, cost, bytes, kit);
    }

    /** "40000 in all: where it would be more it is FULL: nothing of it is made (a FAULT does not come), the run ends" */
    private static void fullBehind(String what, int cost, int[] ops, Kit first) {
        for (int room = cost - 1; room <= cost; room++) {
            Kit kit = thingsToMakeWith();
            kit.fillTo(40000 - room);
            boolean fits = room == cost;
            int answer = kit.does(1, 1000, ops, Kit.n(4, 44));
            String label = what + " with room for " + room + " of " + cost;
            due(label + ": FULL", kit.house.look(6), fits ? 0 : 1);
            due(label + ": MADE", kit.house.look(3), fits ? 40000 : 40000 - room);
            if (!fits) {
                due(label + ": run", answer, 3);
                due(label + ": nothing more is done", kit.number(4), 0);
                due(label + ": a FAULT does not come", kit.house.look(0), 0);
                due(label + ": what would be made", kit.house.slot(0, 0), 0);
                due(label + ": no run any more", kit.house.run(14, 5), 3);
                due(label + ": no load any more", kit.load(0, Kit.b(0)), 9);
            } else {
                due(label + ": it is what it would be", kit.house.slot(0, 0), first.house.slot(0, 0));
                due(label + ": it is what it would be", kit.house.slot(0, 1), first.house.slot(0, 1));
                due(label + ": NOTHING can be loaded", kit.load(3, Kit.b(0)), 0);
                due(label + ": a run can be", kit.house.run(14, 5), 0);
            }
        }
    }

    /** "a ROW, GRID, BOX counts 1 and 1 for each member (a new GRID its ROWS, too; all of 13 at once), ..." */
    private static void whatIsMade() {
        int[] none = Kit.n(0, 0);
        int[] seven = Kit.n(0, 7);
        for (int w = 1; w <= 8; w++) {
            makes("a ROW of none", 1, none, Kit.b(12, 0, w, 0));
            makes("a ROW of 7", 8, seven, Kit.b(12, 0, w, 0));
        }
        makes("a GRID of none", 1, none, Kit.b(13, 0, 0, 5));
        makes("a GRID of no ROWS, however long", 1, Kit.n(1, GREATEST), none, Kit.b(13, 0, 0, 1));
        makes("a GRID of 7 empty ROWS", 1 + 7 + 7, seven, Kit.n(1, 0), Kit.b(13, 0, 0, 1));
        makes("a GRID of 7 ROWS of 5", 1 + 7 + 7 * 6, seven, Kit.b(13, 0, 0, 5));
        makes("a BOX of none", 1, none, Kit.b(14, 0, 3, 0));
        makes("a BOX of 7", 8, seven, Kit.b(14, 0, 3, 0));
        for (int c = 0; c < 5; c++) {
            makes("a PART of CLASS " + c, 4, Kit.b(15, 0, c));
        }
        makes("a TROUBLE", 4, Kit.b(16, 0, 1));
        makes("a CLONE of a ROW", 6, Kit.b(22, 0, 8));
        makes("a CLONE of a GRID, without its ROWS", 6, Kit.b(22, 0, 9));
        makes("a CLONE of a BOX", 6, Kit.b(22, 0, 10));
        makes("a FAULT", 8, Kit.b(34, 0));
        makes("a FAULT in a SCOPE that takes it", 8, Kit.scope(255, 0, Kit.b(34, 0), NO_BYTES, NO_BYTES));
        for (int s = 8; s <= 10; s++) {
            makes("what a SCOPE SAVES", 6, Kit.scope(255, 1 << s, NO_BYTES, NO_BYTES, NO_BYTES));
        }
    }

    /** "(MADE)": a SCOPE's CLONES one by one, those of PARTS, TROUBLES and NOTHING are none. */
    private static void whatAScopeMakes() {
        Kit none = new Kit();
        int[] scope = Kit.scope(0, 1, NO_BYTES, NO_BYTES, NO_BYTES);
        for (int[] op : new int[][] {{12, 0, 1, 0}, {13, 0, 0, 0}, {14, 0, 1, 0}}) {
            int made = none.house.look(3);
            none.run("a CLONE of none", 0, 0, 2, op, scope);
            due("MADE by a CLONE of none", none.house.look(3) - made, 1 + 1);
        }
        int[][] saves = {{0, 0}, {1 << 11, 0}, {1 << 12, 0}, {1, 0}, {1 << 8, 6}, {1 << 8 | 1 << 9 | 1 << 10, 18}, {0xFFFF, 18}};
        for (int[] save : saves) {
            Kit kit = thingsToMakeWith();
            int made = kit.house.look(3);
            due("a SCOPE", kit.does(1, 100, Kit.scope(255, save[0], Kit.n(4, 4), NO_BYTES, NO_BYTES)), 0);
            due("MADE by a SCOPE", kit.house.look(3) - made, save[1]);
        }
        for (int room = 0; room <= 18; room++) {
            Kit kit = thingsToMakeWith();
            kit.fillTo(40000 - room);
            due("a SCOPE", kit.does(1, 100, Kit.scope(255, 0xFFFF, Kit.n(4, 4), NO_BYTES, NO_BYTES)), room == 18 ? 0 : 3);
            due("the CLONES there was room for", kit.house.look(3), 40000 - room + room / 6 * 6);
            due("the BODY", kit.number(4), room == 18 ? 4 : 0);
        }
    }

    private static void makesInLoad(String what, int answer, int cost, int[]... form) {
        Kit kit = new Kit();
        due(what, kit.load(0, form), answer);
        due("MADE by " + what, kit.house.look(3), cost);
        for (int room = cost - 1; room <= cost; room++) {
            kit = new Kit();
            kit.load(0, Kit.b(16, 0, 0, 0, 5));
            kit.fillTo(40000 - room);
            boolean fits = room == cost;
            due(what + " with room for " + room, kit.load(0, form), fits ? answer : 9);
            due(what + ": FULL", kit.house.look(6), fits ? 0 : 1);
            due(what + ": S s", kit.house.slot(0, 0), fits && answer == 0 ? Kit.join(form)[0] : 16);
            if (fits) {
                due(what + ": MADE", kit.house.look(3), 40000);
            } else {
                due(what + ": no run any more", kit.house.run(14, 5), 3);
            }
        }
    }

    private static void whatIsMadeInLoad() {
        int[] screw = Kit.join(Kit.b(13), new int[12]);
        for (int w = 1; w <= 8; w++) {
            makesInLoad("a ROW of none", 0, 1, Kit.b(w), Kit.four(0));
            makesInLoad("a ROW of 3", 0, 4, Kit.b(w), Kit.four(3), new int[24]);
        }
        makesInLoad("a GRID of none", 0, 1, Kit.b(9), Kit.four(0));
        makesInLoad("a GRID with NOTHING and a ROW", 0, 3 + 2, Kit.b(9), Kit.four(2), Kit.b(0, 4), Kit.four(1), new int[4]);
        makesInLoad("a BOX with NOTHING and a SCREW", 0, 3 + 4, Kit.b(10, 1), Kit.four(2), Kit.b(0), screw);
        makesInLoad("a SCREW", 0, 4, screw);
        makesInLoad("a CASE with an empty BOX", 0, 4 + 1, Kit.b(15), new int[16], Kit.b(10, 0), Kit.four(0));
        makesInLoad("a TROUBLE", 0, 4, Kit.b(16), Kit.four(1));
        makesInLoad("a FAULT", 2, 8);
        makesInLoad("a TROUBLE that ends", 2, 4 + 8, Kit.b(16, 0, 0, 0));
        makesInLoad("a ROW that ends", 2, 4 + 8, Kit.b(1), Kit.four(3), Kit.b(1, 1));
        makesInLoad("a SCREW in a BOX of PLATES", 5, 2 + 4 + 8, Kit.b(10, 3), Kit.four(1), screw);
    }

    /** "nothing of it is made" */
    private static void nothingOfIt() {
        // In all 40000 are 199 of 199 and 1 of 39997; one less 19999 of none; one more 20000 of none and 1 of 39998.
        int[][] grids = {
            {199, 199}, {199, 200}, {200, 199}, {19999, 0}, {20000, 0}, {1, 39997}, {1, 39998}, {0, GREATEST},
            {GREATEST, GREATEST}, {GREATEST, 0}, {1, GREATEST}, {65536, 65535}, {2, GREATEST},
        };
        for (int[] sizes : grids) {
            Kit kit = new Kit();
            long all = 1L + sizes[0] + sizes[0] * (1L + sizes[1]);
            String what = "13 of " + sizes[0] + " and " + sizes[1];
            due(what, kit.does(0, 20000, Kit.n(0, sizes[0]), Kit.n(1, sizes[1]), Kit.b(13, 0, 0, 1)), all > 40000 ? 3 : 0);
            due(what + ": FUEL", all > 40000 ? 20000 - kit.house.look(2) : 3, 3);
            due(what + ": what it is", kit.house.slot(0, 0), all > 40000 ? 0 : 9);
            due(what + ": MADE", kit.house.look(3), all > 40000 ? 0 : all);
            due(what + ": FULL", kit.house.look(6), all > 40000 ? 1 : 0);
        }
        for (int op : new int[] {12, 14}) {
            for (int size : new int[] {39999, 40000, GREATEST}) {
                Kit kit = new Kit();
                boolean fits = size == 39999;
                due(op + " of " + size, kit.does(0, 20000, Kit.n(0, size), Kit.b(op, 0, 1, 0)), fits ? 0 : 3);
                due(op + " of " + size + ": MADE", kit.house.look(3), fits ? 40000 : 0);
                due(op + " of " + size + ": members", kit.house.slot(0, 1), fits ? size : -1);
            }
        }
        for (int[] form : new int[][] {{1}, {9}, {10, 0}}) {
            for (int size : new int[] {39991, 39992, 40000, GREATEST}) {
                Kit kit = new Kit();
                due("load of " + size, kit.load(0, form, Kit.four(size)), size == 39991 ? 2 : 9);
                // A ROW of 39992 can be made, but not the FAULT that its bytes end.
                due("load of " + size + ": MADE", kit.house.look(3), size == 39991 ? 40000 : size == 39992 ? 39993 : 0);
            }
        }
    }

    public static void main(String[] args) {
        widthsOfNumbers();
        lowestBitsOfLongs();
        floatsAtTheirBounds();
        doublesAtTheirBounds();
        notANumber();
        thingsOfTheirOwn();
        fieldsOfEachClass();
        whatGoesIntoABox();
        whatOneWeighs();
        whatACaseWeighs();
        membersOfEachClass();
        loads();
        whoCanBeAsked();
        whatIsMade();
        whatAScopeMakes();
        whatIsMadeInLoad();
        nothingOfIt();
        Kit.finish();
    }
}
