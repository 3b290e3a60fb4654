/** What the tests of single answers have in common: names for numbers, and houses with something in them. */
abstract class Checks {
    static final int LEAST = Integer.MIN_VALUE;
    static final int GREATEST = Integer.MAX_VALUE;
    static final double INFINITE = Double.POSITIVE_INFINITY;
    static final int[] NO_BYTES = {};

    static final int EMPTY = 1;
    static final int BOUNDS = 2;
    static final int NEGATIVE = 3;
    static final int KIND = 4;
    static final int MEMBER = 5;
    static final int DIVISION = 6;
    static final int TOLD = 7;
    static final int DEEP = 8;

    static void due(String what, long got, long want) {
        Kit.due(what, got, want);
    }

    static void dueReal(String what, Kit kit, int r, double want) {
        due(what, kit.real(r), Double.doubleToLongBits(want));
    }

    /**
     * N 0 to N 5 are 0 to 5, N 6 is -1; a thing of each kind from 1 to 15 in the SLOT of its number, S 0 has NOTHING.
     * ROWS, the GRID (its ROWS have 2) and the BOX (of CLASS 0, of NOTHING) have 3 members.
     */
    static Kit kit() {
        Kit kit = new Kit();
        int[] bytes = Kit.n(6, -1);
        for (int n = 1; n < 6; n++) {
            bytes = Kit.join(bytes, Kit.n(n, n));
        }
        for (int w = 1; w <= 8; w++) {
            bytes = Kit.join(bytes, Kit.b(12, w, w, 3));
        }
        bytes = Kit.join(bytes, Kit.b(13, 9, 3, 2), Kit.b(14, 10, 0, 3));
        for (int c = 0; c < 5; c++) {
            bytes = Kit.join(bytes, Kit.b(15, 11 + c, c));
        }
        due("kit", kit.does(14, 500, bytes), 0);
        due("kit: MADE", kit.house.look(3), 8 * 4 + 1 + 3 + 3 * 3 + 4 + 5 * 4);
        due("kit: FUEL", 500 - kit.house.look(2), 6 + 8 * 2 + 3 + 2 + 5);
        return kit;
    }

    /** As kit(), with a TROUBLE of -1 in S 0. */
    static Kit allKinds() {
        Kit kit = kit();
        due("a TROUBLE", kit.does(14, 9, Kit.b(16, 0, 6)), 0);
        return kit;
    }
}
