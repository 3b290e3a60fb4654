/** What run() does with each OP: promise 8 by the document's PARTS 1 to 3. */
public final class OpsTest extends Checks {
    private static void faults(String what, int kind, int[]... ops) {
        Kit kit = kit();
        int made = kit.house.look(3);
        due(what, kit.does(0, 100, ops), 1);
        due(what + ": kind", kit.house.look(0), kind);
        due(what + ": number", kit.house.look(1), 0);
        if (ops.length == 1) {
            due(what + ": MADE", kit.house.look(3) - made, 8);
        }
    }

    private static void calculated(int h, int x, int y, int want) {
        Kit kit = new Kit();
        kit.run("3 " + h, 0, 0, 3, Kit.n(0, x), Kit.n(1, y), Kit.b(3, 0, 1, h));
        due("3 " + h + " of " + x + ", " + y, kit.number(0), want);
    }

    private static void numbers() {
        calculated(0, Integer.MAX_VALUE, 1, Integer.MIN_VALUE);
        calculated(1, Integer.MIN_VALUE, 1, Integer.MAX_VALUE);
        calculated(2, 65536, 65537, 65536);
        calculated(3, -7, 2, -3);
        calculated(3, Integer.MIN_VALUE, -1, Integer.MIN_VALUE);
        calculated(4, -7, 2, -1);
        calculated(4, 7, -2, 1);
        calculated(4, Integer.MIN_VALUE, -1, 0);
        calculated(5, -1, 0, 1);
        calculated(5, 0, 0, 0);
        calculated(6, 4, 4, 1);
        calculated(6, 4, 5, 0);
        Kit kit = new Kit();
        kit.run("2", 0, 0, 2, Kit.n(3, 9), Kit.b(2, 4, 3));
        due("2", kit.number(4), 9);
        kit.run("3 of itself", 0, 0, 1, Kit.b(3, 3, 3, 2));
        due("3 of itself", kit.number(3), 81);
        faults("/ 0", DIVISION, Kit.b(3, 1, 0, 3));
        faults("% 0", DIVISION, Kit.b(3, 1, 0, 4));
    }

    private static void slotsAndMaking() {
        Kit kit = kit();
        kit.run("10, 11", 0, 0, 2, Kit.b(10, 0, 9), Kit.b(11, 9));
        due("10", kit.house.slot(0, 0), 9);
        due("11", kit.house.slot(9, 0), 0);
        faults("12 below 0", NEGATIVE, Kit.b(12, 0, 1, 6));
        faults("13 below 0", NEGATIVE, Kit.b(13, 0, 6, 1));
        faults("13 below 0", NEGATIVE, Kit.b(13, 0, 0, 6));
        faults("14 below 0", NEGATIVE, Kit.b(14, 0, 1, 6));
        for (int[] sizes : new int[][] {{0, 0}, {1, 1}, {8, 1}, {9, 2}, {16, 2}, {17, 3}}) {
            int[] size = Kit.n(0, sizes[0]);
            kit = kit();
            kit.run("12", 0, 0, 2 + sizes[1], size, Kit.b(12, 0, 5, 0));
            kit.run("14", 0, 0, 2 + sizes[1], size, Kit.b(14, 0, 4, 0));
            kit.run("22", 0, 0, 1 + sizes[1], Kit.b(22, 1, 0));
            kit.run("21", 0, 0, 3 + sizes[1], Kit.n(1, 0), size, Kit.b(21, 0, 1, 0, 1, 0));
        }
        kit = new Kit();
        kit.run("13", 0, 0, 3 + 4, Kit.n(0, 5), Kit.n(1, 4), Kit.b(13, 0, 0, 1));
        due("13: MADE", kit.house.look(3), 1 + 5 + 5 * 5);
        due("13", kit.member(0, 4), 4);
        kit.run("23", 0, 0, 3, Kit.n(0, 0), Kit.b(23, 1, 0, 0), Kit.b(23, 2, 0, 0));
        due("13: ROWS of their own", kit.house.same(1, 2), 1);
        kit.run("23", 0, 0, 2, Kit.n(0, 1), Kit.b(23, 2, 0, 0));
        due("13: ROWS of their own", kit.house.same(1, 2), 0);
        kit.run("13 of none", 0, 0, 3, Kit.n(0, 0), Kit.n(1, Integer.MAX_VALUE), Kit.b(13, 0, 0, 1));
        due("13 of none", kit.house.slot(0, 1), 0);
        kit.run("16", 0, 0, 1, Kit.b(16, 3, 1));
        due("16", kit.member(3, 0), Integer.MAX_VALUE);
        kit.run("13 of too many", 3, 0, 3, Kit.n(0, Integer.MAX_VALUE), Kit.n(1, Integer.MAX_VALUE),
            Kit.b(13, 5, 0, 1));
        due("13 of too many", kit.house.slot(5, 0), 0);
    }

    private static void full() {
        int[] rest = Kit.join(Kit.n(0, 39991), Kit.b(12, 0, 1, 0));
        Kit kit = new Kit();
        due("8 left", kit.does(0, 20000, rest, Kit.b(15, 1, 0), Kit.b(16, 2, 0)), 0);
        due("8 left: MADE", kit.house.look(3), 40000);
        due("none left", kit.does(0, 100, Kit.b(11, 4), Kit.b(15, 3, 0), Kit.n(1, 1)), 3);
        due("none left: FUEL", kit.house.look(2), 98);
        due("none left: no PART", kit.house.slot(3, 0), 0);
        due("none left: nothing more", kit.number(1), 0);

        kit = new Kit();
        due("a FAULT in the last 8", kit.does(0, 20000, rest, Kit.b(34, 5)), 1);
        due("a FAULT in the last 8: MADE", kit.house.look(3), 40000);
        int[] guarded = Kit.scope(255, 0, Kit.b(34, 5), Kit.n(1, 1), Kit.n(2, 2));
        due("a FAULT that does not come", kit.does(0, 100, guarded), 3);
        due("no FAULT", kit.house.look(0), 0);
        due("no HANDLER", kit.number(1), 0);
        due("no ALWAYS", kit.number(2), 0);
        due("N 7", kit.number(7), 0);

        kit = new Kit();
        int[] saves = Kit.scope(255, 3, Kit.n(3, 3), NO_BYTES, NO_BYTES);
        due("CLONES that are too many", kit.does(0, 20000, Kit.n(0, 13333), Kit.b(12, 0, 1, 0),
            Kit.b(10, 1, 0), saves), 3);
        due("one of them was MADE", kit.house.look(3), 2 * 13334);
        due("no BODY", kit.number(3), 0);
        due("FUEL of one", 20000 - kit.house.look(2), 4 + 1667 * 2);

        kit = new Kit();
        due("22 at the end", kit.does(0, 20000, Kit.n(0, 20000), Kit.b(12, 0, 1, 0), Kit.b(22, 1, 0)), 3);
        due("22 at the end: it stays", kit.house.slot(1, 0), 0);
    }

    private static void fuelBehind() {
        Kit kit = new Kit();
        due("12", kit.does(0, 3, Kit.n(0, 17), Kit.b(12, 0, 1, 0), Kit.n(1, 1)), 2);
        due("12: what was done stays", kit.house.slot(0, 1), 17);
        due("12: FUEL", kit.house.look(2), 0);
        due("12: MADE", kit.house.look(3), 18);
        due("12 is done", kit.does(0, 5, Kit.n(0, 17), Kit.b(12, 0, 1, 0)), 0);
        int[] saves = Kit.scope(255, 3, Kit.n(3, 3), NO_BYTES, Kit.n(4, 4));
        due("SCOPE", kit.does(0, 6, Kit.b(10, 1, 0), saves), 2);
        due("SCOPE: two CLONES", kit.house.look(3), 18 * 4);
        due("SCOPE: no ALWAYS", kit.number(4), 0);
        due("SCOPE", kit.does(0, 4, Kit.b(10, 1, 0), saves), 2);
        due("SCOPE: one CLONE", kit.house.look(3), 18 * 5);
        due("SCOPE", kit.does(0, 10, Kit.b(10, 1, 0), saves), 0);
        due("SCOPE: ALWAYS", kit.number(4), 4);
    }

    private static void kinds() {
        // By SLOT 0 to 16: for which h of 18 the thing in it is one.
        int[][] fits = {
            {0}, {1}, {2}, {3}, {4}, {5}, {6}, {7}, {8}, {9}, {10}, {11}, {11, 12, 17}, {11, 12, 13, 17},
            {11, 14, 17, 18}, {11, 14, 15, 17, 18}, {16},
        };
        for (int kind = 0; kind <= 16; kind++) {
            Kit kit = kit();
            int s = kind;
            if (kind == 16) {
                kit.run("16", 0, 0, 1, Kit.b(16, 0, 0));
                s = 0;
            }
            for (int h = 0; h < 20; h++) {
                boolean is = false;
                for (int k : fits[kind]) {
                    is |= k == h;
                }
                kit.run("18", 0, 0, 1, Kit.b(18, 7, s, h));
                due("18 " + h + " of " + kind, kit.number(7), is ? 1 : 0);
            }
        }
        for (int c = 0; c < 5; c++) {
            Kit kit = kit();
            kit.run("18 19", 0, 0, 2, Kit.b(14, 0, c, 0), Kit.b(18, 7, 0, 19));
            due("18 19 of " + c, kit.number(7), c == 1 || c == 2 ? 1 : 0);
        }
        Kit kit = kit();
        kit.run("17", 0, 0, 1, Kit.b(17, 7, 9));
        due("17", kit.number(7), 3);
        faults("17 of NOTHING", EMPTY, Kit.b(17, 7, 0));
        faults("17 of a PART", KIND, Kit.b(17, 7, 11));
        faults("17 of a TROUBLE", KIND, Kit.b(16, 0, 0), Kit.b(17, 7, 0));
        faults("22 of NOTHING", EMPTY, Kit.b(22, 7, 0));
        faults("22 of a PART", KIND, Kit.b(22, 7, 15));
        faults("22 of a TROUBLE", KIND, Kit.b(16, 0, 0), Kit.b(22, 7, 0));
    }

    private static void rows() {
        int value = 0x8765C3F1;
        long[] wants = {0, (byte) value, (char) value, (short) value, value, value, 0, 0, 1};
        for (int w = 1; w <= 8; w++) {
            Kit kit = kit();
            if (w == 6 || w == 7) {
                kit.run("20", 0, 0, 3, Kit.r(2, -0.1), Kit.b(20, w, w, 2, 2), Kit.b(19, w, 3, w, 2));
                due("20 " + w, kit.member(w, 2), w == 6 ? Float.floatToIntBits(-0.1f)
                    : Double.doubleToLongBits(-0.1));
                dueReal("19 " + w, kit, 3, w == 6 ? (double) -0.1f : -0.1);
            } else {
                kit.run("20", 0, 0, 3, Kit.n(7, value), Kit.b(20, w, w, 2, 7), Kit.b(19, w, 3, w, 2));
                due("20 " + w, kit.member(w, 2), wants[w]);
                due("19 " + w, kit.number(3), wants[w]);
            }
            due("20 leaves others", kit.member(w, 1), 0);
            faults("19 of NOTHING", EMPTY, Kit.b(19, w, 0, 0, 6));
            faults("20 of NOTHING", EMPTY, Kit.b(20, w, 0, 6, 0));
            faults("19 of another", KIND, Kit.b(19, w, 0, w % 8 + 1, 6));
            faults("20 of another", KIND, Kit.b(20, w, w % 8 + 1, 6, 0));
            faults("19 of a GRID", KIND, Kit.b(19, w, 0, 9, 0));
            faults("19 below 0", BOUNDS, Kit.b(19, w, 0, w, 6));
            faults("20 below 0", BOUNDS, Kit.b(20, w, w, 6, 0));
            faults("19 beyond", BOUNDS, Kit.b(19, w, 0, w, 3));
            faults("20 beyond", BOUNDS, Kit.b(20, w, w, 3, 0));
        }
        Kit kit = new Kit();
        kit.load(0, Kit.b(5, 0, 0, 0, 1), Kit.eight(0x123456789ABCDEF0L));
        kit.run("LONGS", 0, 0, 1, Kit.b(19, 5, 1, 0, 0));
        due("19 of LONGS", kit.number(1), 0x9ABCDEF0);
    }

    private static void copying() {
        Kit kit = new Kit();
        kit.load(0, Kit.b(1), Kit.four(6), Kit.b(1, 2, 3, 4, 5, 6));
        kit.load(1, Kit.b(1), Kit.four(6), Kit.b(1, 2, 3, 4, 5, 6));
        kit.run("overlap", 0, 0, 6 + 1, Kit.n(0, 0), Kit.n(1, 1), Kit.n(4, 4), Kit.b(21, 0, 0, 0, 1, 4),
            Kit.b(21, 1, 1, 1, 0, 0), Kit.b(11, 9));
        kit.saved("overlap upwards", 0, Kit.b(1), Kit.four(6), Kit.b(1, 1, 2, 3, 4, 6));
        kit.run("overlap", 0, 0, 1 + 1, Kit.b(21, 1, 1, 1, 0, 4));
        kit.saved("overlap downwards", 1, Kit.b(1), Kit.four(6), Kit.b(2, 3, 4, 5, 5, 6));
        faults("21 from NOTHING", EMPTY, Kit.b(21, 0, 6, 11, 6, 6));
        faults("21 to NOTHING", EMPTY, Kit.b(21, 11, 6, 0, 6, 6));
        faults("21 from a PART", MEMBER, Kit.b(21, 11, 6, 1, 6, 6));
        faults("21 to a PART", MEMBER, Kit.b(21, 1, 6, 11, 6, 6));
        faults("21 of TROUBLES", MEMBER, Kit.b(16, 0, 0), Kit.b(21, 0, 0, 0, 0, 0));
        faults("21 of other WIDTHS", MEMBER, Kit.b(21, 1, 6, 8, 6, 6));
        faults("21 from a ROW to a GRID", MEMBER, Kit.b(21, 4, 6, 9, 6, 6));
        faults("21 from a BOX to a ROW", MEMBER, Kit.b(21, 10, 6, 4, 6, 6));
        faults("21 N i below 0", BOUNDS, Kit.b(21, 4, 6, 4, 0, 0));
        faults("21 N j below 0", BOUNDS, Kit.b(21, 4, 0, 4, 6, 0));
        faults("21 N k below 0", BOUNDS, Kit.b(21, 4, 0, 4, 0, 6));
        faults("21 beyond S s", BOUNDS, Kit.b(21, 4, 1, 4, 0, 3));
        faults("21 beyond S t", BOUNDS, Kit.b(21, 4, 0, 4, 1, 3));
        faults("21 far beyond", BOUNDS, Kit.n(7, Integer.MAX_VALUE), Kit.b(21, 4, 1, 4, 1, 7));
        faults("21 far beyond, of a BOX", BOUNDS, Kit.n(7, Integer.MAX_VALUE), Kit.b(21, 10, 7, 10, 7, 7));
        kit().run("21 of none at the end", 0, 0, 1, Kit.b(21, 4, 3, 4, 3, 0));
        copyingThings();
    }

    private static void copyingThings() {
        // NOTHING goes anywhere.
        kit().run("21 of NOTHING", 0, 0, 2, Kit.b(21, 10, 0, 9, 0, 3));
        Kit kit = kit();
        kit.run("21 of ROWS to a BOX", 1, MEMBER, 3, Kit.b(24, 9, 0, 0), Kit.b(26, 10, 0, 11),
            Kit.b(21, 9, 0, 10, 0, 3));
        due("those ahead stay copied", kit.member(10, 0), -1);
        kit = kit();
        kit.run("21 of PARTS to a GRID", 1, MEMBER, 2, Kit.b(26, 10, 1, 11), Kit.b(21, 10, 0, 9, 0, 3));
        due("those ahead stay copied", kit.member(9, 0), -1);
        due("those behind stay", kit.member(9, 1), 2);
        kit = kit();
        kit.run("21 to a BOX of BOLTS", 1, MEMBER, 5 + 1, Kit.b(14, 0, 1, 3), Kit.b(26, 10, 0, 13),
            Kit.b(26, 10, 1, 12), Kit.b(26, 10, 2, 11), Kit.b(21, 10, 0, 0, 0, 3));
        due("a SCREW", kit.member(0, 0), 2);
        due("a BOLT", kit.member(0, 1), 1);
        due("no PART", kit.member(0, 2), -1);
        kit.run("21 within a BOX", 0, 0, 2, Kit.b(21, 10, 0, 10, 1, 2));
        due("21 within a BOX", kit.member(10, 0) * 100 + kit.member(10, 1) * 10 + kit.member(10, 2), 221);
        kit.run("21 upwards", 0, 0, 3 + 1, Kit.b(11, 5), Kit.b(26, 0, 2, 5), Kit.b(21, 10, 0, 0, 1, 2));
        due("21 upwards", kit.member(0, 0) * 100 + kit.member(0, 1) * 10 + kit.member(0, 2), 222);
        kit.run("21 downwards", 0, 0, 1 + 1, Kit.b(21, 10, 1, 10, 0, 2));
        due("21 downwards", kit.member(10, 0) * 100 + kit.member(10, 1) * 10 + kit.member(10, 2), 211);
        kit.run("21 upwards", 1, MEMBER, 2, Kit.b(26, 10, 0, 11), Kit.b(21, 10, 0, 0, 1, 2));
        due("21 upwards", kit.member(0, 0) * 100 + kit.member(0, 1) * 10 + kit.member(0, 2), 222);
        kit.run("22 of a BOX", 0, 0, 2, Kit.b(22, 1, 10));
        due("22: a new one", kit.house.same(1, 10), 0);
        due("22: its CLASS", kit.house.slot(1, 2), 0);
        kit.run("25", 0, 0, 2, Kit.b(25, 2, 1, 1), Kit.b(25, 3, 10, 1));
        due("22: the same members", kit.house.same(2, 3), 1);
    }

    private static void shelves() {
        faults("23 of NOTHING", EMPTY, Kit.b(23, 1, 0, 6));
        faults("23 of a BOX", KIND, Kit.b(23, 1, 10, 6));
        faults("23 below 0", BOUNDS, Kit.b(23, 1, 9, 6));
        faults("23 beyond", BOUNDS, Kit.b(23, 1, 9, 3));
        faults("25 of NOTHING", EMPTY, Kit.b(25, 1, 0, 6));
        faults("25 of a GRID", KIND, Kit.b(25, 1, 9, 6));
        faults("25 below 0", BOUNDS, Kit.b(25, 1, 10, 6));
        faults("25 beyond", BOUNDS, Kit.b(25, 1, 10, 3));
        faults("24: S t is no GRID", KIND, Kit.b(24, 10, 6, 4));
        faults("24: S s is no ROW of INTS", KIND, Kit.b(24, 9, 6, 5));
        faults("24: KIND of S s ahead of EMPTY", KIND, Kit.b(24, 0, 6, 9));
        faults("24: EMPTY", EMPTY, Kit.b(24, 0, 6, 4));
        faults("24: EMPTY of both", EMPTY, Kit.b(24, 0, 6, 0));
        faults("24: BOUNDS", BOUNDS, Kit.b(24, 9, 6, 4));
        faults("24: BOUNDS", BOUNDS, Kit.b(24, 9, 3, 0));
        faults("26: S t is no BOX", KIND, Kit.b(26, 9, 6, 11));
        faults("26: S s is no PART", KIND, Kit.b(26, 10, 6, 10));
        faults("26: KIND of S s ahead of EMPTY", KIND, Kit.b(26, 0, 6, 4));
        faults("26: EMPTY", EMPTY, Kit.b(26, 0, 6, 11));
        faults("26: BOUNDS", BOUNDS, Kit.b(26, 10, 6, 11));
        faults("26: BOUNDS ahead of MEMBER", BOUNDS, Kit.b(14, 0, 4, 3), Kit.b(26, 0, 3, 11));
        boolean[][] below = {
            {true, true, true, true, true}, {false, true, true, false, false}, {false, false, true, false, false},
            {false, false, false, true, true}, {false, false, false, false, true},
        };
        for (int box = 0; box < 5; box++) {
            for (int c = 0; c < 5; c++) {
                Kit kit = kit();
                boolean fits = below[box][c];
                kit.run("26 " + box + " " + c, fits ? 0 : 1, fits ? 0 : MEMBER, 3, Kit.b(14, 0, box, 3),
                    Kit.b(26, 0, 2, 11 + c));
                due("26 " + box + " " + c, kit.member(0, 2), fits ? c : -1);
            }
        }
        Kit kit = kit();
        kit.run("24, 23", 0, 0, 2, Kit.b(24, 9, 1, 4), Kit.b(23, 0, 9, 1));
        due("24, 23", kit.house.same(0, 4), 1);
        kit.run("26, 25", 0, 0, 4, Kit.b(26, 10, 2, 14), Kit.b(25, 0, 10, 2), Kit.b(11, 1), Kit.b(26, 10, 2, 1));
        due("26, 25", kit.house.same(0, 14), 1);
        due("26 of NOTHING", kit.member(10, 2), -1);
    }

    private static void fields() {
        for (int c = 0; c < 5; c++) {
            for (int h = 0; h < 4; h++) {
                boolean has = h < 2 || h == 2 && c > 2 || c == 4;
                Kit kit = kit();
                int value = h == 3 ? 10 : 2;
                kit.run("28 " + h + " of " + c, has ? 0 : 1, has ? 0 : KIND, 2, Kit.r(2, 7.5),
                    Kit.b(28, h, 11 + c, value));
                kit.run("27 " + h + " of " + c, has ? 0 : 1, has ? 0 : KIND, 1, Kit.b(27, h, 3, 11 + c));
                if (has) {
                    due("27 " + h, h == 3 ? kit.house.same(3, 10) : h == 1 ? kit.real(3) : kit.number(3),
                        h == 3 ? 1 : h == 1 ? Double.doubleToLongBits(7.5) : 2);
                }
            }
        }
        for (int h = 0; h < 4; h++) {
            faults("27 of NOTHING", EMPTY, Kit.b(27, h, 3, 0));
            faults("27 of a ROW", KIND, Kit.b(27, h, 3, 1));
            faults("28 of NOTHING", EMPTY, Kit.b(28, h, 0, 0));
            faults("28 of a ROW", KIND, Kit.b(28, h, 1, 0));
        }
        faults("28 3: no BOX", KIND, Kit.b(28, 3, 15, 9));
        faults("28 3: no BOX ahead of EMPTY", KIND, Kit.b(28, 3, 0, 11));
        faults("28 3: EMPTY", EMPTY, Kit.b(28, 3, 0, 10));
        Kit kit = kit();
        kit.run("28 3 of NOTHING", 0, 0, 3, Kit.b(28, 3, 15, 10), Kit.b(28, 3, 15, 0), Kit.b(27, 3, 1, 15));
        due("28 3 of NOTHING", kit.house.slot(1, 0), 0);
    }

    private static void asking() {
        int[] fill = NO_BYTES;
        for (int c = 0; c < 5; c++) {
            fill = Kit.join(fill, Kit.b(28, 0, 11 + c, 3), Kit.b(28, 1, 11 + c, 0));
        }
        fill = Kit.join(Kit.r(0, 1.5), fill, Kit.b(28, 2, 14, 5), Kit.b(28, 2, 15, 2), Kit.b(28, 3, 15, 10),
            Kit.b(26, 10, 0, 13), Kit.b(26, 10, 1, 14), Kit.b(26, 10, 2, 11));
        double screw = 1.5 + 0.75;
        double box = 1.5 + screw + 1.5 + 1.5;
        double[] weighs = {1.5, 1.5, screw, 1.5, box};
        double[] loads = {0, 4 * 1.5, 4 * screw, 4 * 1.5 + 4 * 5.0, 4 * box + 4 * 2.0 + 1.0};
        double[] labels = {1, 12, 123, 1, 51};
        for (int c = 0; c < 5; c++) {
            Kit kit = kit();
            kit.run("fill", 0, 0, 17, fill);
            int parts = c == 4 ? 4 : 1;
            boolean[] asked = {true, c > 0, c > 2, c == 1 || c == 2, c > 2, true};
            for (int h = 0; h < 6; h++) {
                kit.run("29 " + h + " of " + c, asked[h] ? 0 : 1, asked[h] ? 0 : KIND,
                    asked[h] && h < 5 ? 1 + parts : 1, Kit.b(29, h, 3, 11 + c, 4));
                if (asked[h]) {
                    dueReal("29 " + h + " of " + c, kit, 3, h == 0 ? weighs[c] : h == 5 ? labels[c] : loads[c]);
                }
            }
        }
        for (int h = 0; h < 6; h++) {
            faults("29 of NOTHING", EMPTY, Kit.b(29, h, 0, 0, 0));
            faults("29 of a BOX", KIND, Kit.b(29, h, 0, 10, 0));
        }
        faults("29: INNER is NOTHING", EMPTY, Kit.b(29, 0, 0, 15, 0));
        faults("29: a member is NOTHING", EMPTY, Kit.b(28, 3, 15, 10), Kit.b(29, 4, 0, 15, 0));
        askingDeep();
    }

    private static void askingDeep() {
        // A CASE whose BOX has itself, behind a BOLT.
        Kit kit = kit();
        int[] loop = Kit.join(Kit.b(28, 3, 15, 10), Kit.b(26, 10, 0, 12), Kit.b(26, 10, 1, 15));
        kit.run("in itself", 1, DEEP, 3 + 1 + 59, loop, Kit.b(29, 0, 0, 15, 0));
        due("FUEL runs out first", kit.does(0, 40, loop, Kit.b(29, 0, 0, 15, 0)), 2);
        due("FUEL runs out first", kit.house.look(2), 0);
        // 30 PARTS in one another are asked; each BOX has the next.
        kit = new Kit();
        int[] next = Kit.join(Kit.b(15, 1, 4), Kit.b(28, 3, 1, 2), Kit.b(14, 2, 0, 0), Kit.b(26, 2, 1, 1));
        int[] count = Kit.join(Kit.n(3, 1), Kit.b(3, 7, 3, 1));
        int[] chain = Kit.join(Kit.n(0, 1), Kit.b(15, 1, 0), Kit.b(14, 2, 0, 0), Kit.b(26, 2, 1, 1), Kit.n(7, 29),
            Kit.rounds(7, Kit.join(next, count)));
        due("a chain", kit.does(0, 1000, chain), 0);
        kit.run("30 PARTS", 0, 0, 31, Kit.b(29, 0, 0, 1, 0));
        due("30 PARTS and no FUEL", kit.does(0, 30, Kit.b(29, 0, 0, 1, 0)), 2);
        kit.run("31 PARTS", 1, DEEP, 3 + 30, Kit.b(15, 1, 4), Kit.b(28, 3, 1, 2), Kit.b(29, 0, 0, 1, 0));
        due("31 PARTS and FUEL for 30", kit.does(0, 31, Kit.b(29, 0, 0, 1, 0)), 1);
        due("31 PARTS and no FUEL", kit.does(0, 30, Kit.b(29, 0, 0, 1, 0)), 2);
    }

    private static void parts() {
        Kit kit = kit();
        kit.run("30", 0, 0, 2, Kit.choice(6, Kit.n(7, 1), Kit.n(7, 2)));
        due("30", kit.number(7), 1);
        kit.run("30", 0, 0, 3, Kit.choice(0, Kit.n(7, 1), Kit.n(7, 2)), Kit.b(2, 6, 7));
        due("30", kit.number(6), 2);
        kit.run("31 not at all", 0, 0, 1, Kit.rounds(0, Kit.n(7, 9)));
        due("31 not at all", kit.number(7), 2);
        kit = kit();
        kit.run("31", 0, 0, 1 + 3 * 2 + 2, Kit.rounds(3, Kit.join(Kit.b(3, 3, 1, 1), Kit.b(3, 7, 2, 0))));
        due("31", kit.number(7), 6);
        due("31", kit.number(3), 0);
        due("31 without an end", kit.does(0, 500, Kit.rounds(1, NO_BYTES)), 2);
        due("31 without an end", kit.house.look(2), 0);
        due("33", kit.does(3, 100, Kit.b(3, 0, 1, 0)), 0);
        kit.run("33", 0, 0, 4, Kit.b(33, 3, 33, 3));
        due("33", kit.number(0), 3);
    }

    private static void deepPatches() {
        Kit kit = kit();
        int made = kit.house.look(3);
        kit.run("a PATCH in itself", 1, DEEP, 24, Kit.b(3, 0, 1, 0), Kit.b(33, 15));
        due("twelve of them", kit.number(0), 12);
        due("one FAULT", kit.house.look(3) - made, 8);
        // Each PATCH has ten SCOPES in one another; each ALWAYS counts.
        int[] body = Kit.b(33, 15);
        for (int i = 0; i < 10; i++) {
            body = Kit.scope(0, 0, body, NO_BYTES, Kit.b(3, 7, 1, 0));
        }
        kit = kit();
        kit.run("as deep as can be", 1, DEEP, 12 * 11 + 120, body);
        due("each ALWAYS", kit.number(7), 120);
        due("run again", kit.house.run(15, 251), 2);
        due("run again", kit.number(7), 120 + 119);
        kit.patch(14, Kit.b(33, 14));
        kit.run("a HANDLER outside", 0, 0, 2 + 11 + 1, Kit.scope(128, 0, Kit.b(33, 14), Kit.b(2, 4, 7), NO_BYTES));
        due("its kind", kit.number(4), DEEP);
    }

    private static void scopes() {
        Kit kit = kit();
        int[] tell = Kit.join(Kit.n(5, 77), Kit.b(16, 0, 5), Kit.b(34, 0));
        kit.run("handled", 0, 0, 1 + 3 + 1 + 1, Kit.scope(64, 0, tell, Kit.b(2, 1, 6), Kit.b(2, 2, 7)));
        due("N 6", kit.number(1), 77);
        due("N 7", kit.number(2), TOLD);
        kit.run("not handled", 1, TOLD, 1 + 3 + 1, Kit.scope(255 - 64, 0, tell, Kit.n(3, 8), Kit.n(4, 9)));
        due("its number", kit.house.look(1), 77);
        due("no HANDLER", kit.number(3), 3);
        due("ALWAYS", kit.number(4), 9);
        kit.run("no FAULT", 0, 0, 3, Kit.scope(255, 0, Kit.n(1, 1), Kit.n(2, 2), Kit.n(3, 13)), NO_BYTES);
        due("no HANDLER", kit.number(2), TOLD);
        due("ALWAYS", kit.number(3), 13);
        int made = kit.house.look(3);
        kit.run("a FAULT of the HANDLER", 1, KIND, 1 + 1 + 1 + 1,
            Kit.scope(255, 0, Kit.b(19, 1, 0, 2, 6), Kit.b(17, 0, 11), Kit.n(3, 14)));
        due("ALWAYS", kit.number(3), 14);
        due("two FAULTS", kit.house.look(3) - made, 16);
        made = kit.house.look(3);
        kit.run("a FAULT of ALWAYS", 1, DIVISION, 1 + 3 + 2,
            Kit.scope(0, 0, tell, NO_BYTES, Kit.join(Kit.n(2, 0), Kit.b(3, 1, 2, 3))));
        due("its number", kit.house.look(1), 0);
        due("two FAULTS", kit.house.look(3) - made, 16 + 4);
        made = kit.house.look(3);
        kit.run("out of three", 0, 0, 3 + 3 + 3, Kit.scope(64, 0,
            Kit.scope(0, 0, Kit.scope(32, 0, tell, Kit.n(1, 1), Kit.n(1, 2)), NO_BYTES, Kit.b(3, 1, 1, 0)),
            Kit.b(2, 3, 6), NO_BYTES));
        due("each ALWAYS", kit.number(1), 4);
        due("the HANDLER", kit.number(3), 77);
        due("one FAULT", kit.house.look(3) - made, 8 + 4);
        made = kit.house.look(3);
        kit.run("a FAULT in ALWAYS goes to the outer one", 0, 0, 2 + 3 + 1 + 1, Kit.scope(8, 0,
            Kit.scope(255 - 64, 0, tell, NO_BYTES, Kit.b(17, 1, 11)), Kit.b(2, 3, 7), NO_BYTES));
        due("its kind", kit.number(3), KIND);
        due("N 6", kit.number(6), 0);
    }

    private static void savedSlots() {
        Kit kit = kit();
        int made = kit.house.look(3);
        int[] change = Kit.join(Kit.b(20, 4, 4, 0, 5), Kit.b(11, 4), Kit.b(11, 9), Kit.b(11, 12));
        int[] fail = Kit.join(change, Kit.b(34, 9));
        // S 4 (INTS), S 9 (a GRID) and S 12 (a BOLT) are saved: two CLONES.
        int saves = 1 << 4 | 1 << 9 | 1 << 12;
        kit.run("put back", 0, 0, 1 + 2 + 5, Kit.scope(1, saves, fail, NO_BYTES, NO_BYTES));
        due("S 4", kit.house.slot(4, 0), 4);
        due("S 9", kit.house.slot(9, 0), 9);
        due("S 12", kit.house.slot(12, 0), 12);
        due("its members", kit.member(4, 0), 0);
        due("MADE", kit.house.look(3) - made, 4 + 4 + 8);
        kit.run("not put back", 1, EMPTY, 1 + 2 + 5, Kit.scope(254, saves, fail, NO_BYTES, NO_BYTES));
        due("S 4", kit.house.slot(4, 0), 0);
        due("S 12", kit.house.slot(12, 0), 0);

        kit = kit();
        kit.run("no FAULT", 0, 0, 1 + 2 + 4, Kit.scope(1, saves, change, NO_BYTES, NO_BYTES));
        due("nothing is put back", kit.house.slot(9, 0), 0);

        kit = kit();
        // The same ROW in S 4 and S 1, not saved there: its members are put back all the same.
        kit.run("the same one", 0, 0, 1 + 1 + 1 + 2 + 2, Kit.b(10, 1, 4), Kit.scope(1, 1 << 4,
            Kit.join(Kit.b(20, 4, 4, 0, 5), Kit.b(34, 0)), Kit.n(7, 4), Kit.b(20, 4, 1, 1, 5)));
        due("S 1", kit.house.same(1, 4), 1);
        due("put back", kit.member(1, 0), 0);
        due("by ALWAYS", kit.member(4, 1), 5);

        kit = kit();
        // What is in a PART, or in a ROW of a GRID, is not SAVED.
        kit.run("not within", 0, 0, 1 + 1 + 6, Kit.scope(1, 1 << 9 | 1 << 11, Kit.join(Kit.b(23, 1, 9, 0),
            Kit.b(20, 4, 1, 0, 5), Kit.b(28, 0, 11, 5), Kit.b(11, 2), Kit.b(24, 9, 1, 2), Kit.b(34, 2)),
            NO_BYTES, NO_BYTES));
        due("a PART", kit.member(11, 0), 5);
        due("the member of a GRID", kit.member(9, 1), 2);
        kit.run("23", 0, 0, 1, Kit.b(23, 3, 9, 0));
        due("a ROW within", kit.member(3, 0), 5);

        kit = kit();
        kit.run("all of them", 0, 0, 1 + 10 + 1, Kit.scope(255, 0xFFFF, Kit.b(34, 0), NO_BYTES, NO_BYTES));
        for (int s = 0; s < 16; s++) {
            due("S " + s, kit.house.slot(s, 0), s);
        }
        kit.run("in a BOX", 0, 0, 1 + 1 + 2 + 1, Kit.scope(255, 1 << 10, Kit.join(Kit.b(26, 10, 0, 11),
            Kit.b(34, 0)), Kit.b(25, 1, 10, 0), NO_BYTES));
        due("a BOX's members", kit.house.slot(1, 0), 0);
    }

    public static void main(String[] args) {
        numbers();
        slotsAndMaking();
        full();
        fuelBehind();
        kinds();
        rows();
        copying();
        shelves();
        fields();
        asking();
        parts();
        deepPatches();
        scopes();
        savedSlots();
        Kit.finish();
    }
}
