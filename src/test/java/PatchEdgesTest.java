/**
 * Promise 4, and the sentences of PART 2 that say which bytes an OP has: every operand with every
 * byte, every OP cut short, parts that end just there, and what the PATCHES are afterwards.
 */
public final class PatchEdgesTest extends Checks {
    // Each OP that has no parts with operands that are all within their bounds, and beside it the least and the
    // greatest byte of each operand. Where the first operand says what another one is, the OP stands once for each.
    private static final int[][] OPS = {
        {1, 0, 0, 0, 0, 0}, {2, 0, 0}, {3, 0, 0, 0}, {4, 0, 0, 0, 0, 0, 0, 0, 0, 0}, {5, 0, 0}, {6, 0, 0},
        {7, 0, 0, 0}, {8, 0, 0}, {9, 0, 0, 0, 0}, {10, 0, 0}, {11, 0}, {12, 0, 1, 0}, {13, 0, 0, 0},
        {14, 0, 0, 0}, {15, 0, 0}, {16, 0, 0}, {17, 0, 0}, {18, 0, 0, 0},
        {19, 1, 0, 0, 0}, {19, 2, 0, 0, 0}, {19, 3, 0, 0, 0}, {19, 4, 0, 0, 0}, {19, 5, 0, 0, 0}, {19, 6, 0, 0, 0},
        {19, 7, 0, 0, 0}, {19, 8, 0, 0, 0}, {20, 1, 0, 0, 0}, {20, 2, 0, 0, 0}, {20, 3, 0, 0, 0}, {20, 4, 0, 0, 0},
        {20, 5, 0, 0, 0}, {20, 6, 0, 0, 0}, {20, 7, 0, 0, 0}, {20, 8, 0, 0, 0}, {21, 0, 0, 0, 0, 0}, {22, 0, 0},
        {23, 0, 0, 0}, {24, 0, 0, 0}, {25, 0, 0, 0}, {26, 0, 0, 0}, {27, 0, 0, 0}, {27, 1, 0, 0}, {27, 2, 0, 0},
        {27, 3, 0, 0}, {28, 0, 0, 0}, {28, 1, 0, 0}, {28, 2, 0, 0}, {28, 3, 0, 0}, {29, 0, 0, 0, 0}, {33, 0}, {34, 0},
    };
    private static final int[][] LIMITS = {
        {0, 7, 0, 255, 0, 255, 0, 255, 0, 255}, {0, 7, 0, 7}, {0, 7, 0, 7, 0, 6},
        {0, 3, 0, 255, 0, 255, 0, 255, 0, 255, 0, 255, 0, 255, 0, 255, 0, 255}, {0, 3, 0, 7}, {0, 7, 0, 3},
        {0, 3, 0, 3, 0, 7}, {0, 3, 0, 9}, {0, 7, 0, 3, 0, 3, 0, 5}, {0, 15, 0, 15}, {0, 15}, {0, 15, 1, 8, 0, 7},
        {0, 15, 0, 7, 0, 7}, {0, 15, 0, 4, 0, 7}, {0, 15, 0, 4}, {0, 15, 0, 7}, {0, 7, 0, 15}, {0, 7, 0, 15, 0, 19},
        {1, 8, 0, 7, 0, 15, 0, 7}, {1, 8, 0, 7, 0, 15, 0, 7}, {1, 8, 0, 7, 0, 15, 0, 7}, {1, 8, 0, 7, 0, 15, 0, 7},
        {1, 8, 0, 7, 0, 15, 0, 7}, {1, 8, 0, 3, 0, 15, 0, 7}, {1, 8, 0, 3, 0, 15, 0, 7}, {1, 8, 0, 7, 0, 15, 0, 7},
        {1, 8, 0, 15, 0, 7, 0, 7}, {1, 8, 0, 15, 0, 7, 0, 7}, {1, 8, 0, 15, 0, 7, 0, 7}, {1, 8, 0, 15, 0, 7, 0, 7},
        {1, 8, 0, 15, 0, 7, 0, 7}, {1, 8, 0, 15, 0, 7, 0, 3}, {1, 8, 0, 15, 0, 7, 0, 3}, {1, 8, 0, 15, 0, 7, 0, 7},
        {0, 15, 0, 7, 0, 15, 0, 7, 0, 7}, {0, 15, 0, 15}, {0, 15, 0, 15, 0, 7}, {0, 15, 0, 7, 0, 15},
        {0, 15, 0, 15, 0, 7}, {0, 15, 0, 7, 0, 15}, {0, 3, 0, 7, 0, 15}, {0, 3, 0, 3, 0, 15}, {0, 3, 0, 7, 0, 15},
        {0, 3, 0, 15, 0, 15}, {0, 3, 0, 15, 0, 7}, {0, 3, 0, 15, 0, 3}, {0, 3, 0, 15, 0, 7}, {0, 3, 0, 15, 0, 15},
        {0, 5, 0, 3, 0, 15, 0, 7}, {0, 15}, {0, 15},
    };

    /** Whether these bytes are a PATCH: 0, or 1 and the place. */
    private static void checked(String what, int answer, int[]... parts) {
        Kit kit = new Kit();
        due("4: an OP to begin with", kit.patch(3, Kit.b(11, 0)), 0);
        due("4: " + what, kit.patch(3, parts), answer);
        due("4: bytes of it: " + what, kit.house.look(10), answer == 0 ? Kit.join(parts).length : 2);
        due("4: the TAPE is empty then: " + what, kit.house.look(4), 0);
    }

    /** "an operand out of its bounds" */
    private static void everyByteOfEveryOperand() {
        for (int k = 0; k < OPS.length; k++) {
            due("4: operands", LIMITS[k].length, 2 * OPS[k].length - 2);
            for (int i = 1; i < OPS[k].length; i++) {
                for (int value = 0; value < 256; value++) {
                    checkOperand(k, i, value);
                }
            }
        }
    }

    private static void checkOperand(int k, int i, int value) {
        int[] op = OPS[k].clone();
        op[i] = value;
        boolean fits = value >= LIMITS[k][2 * i - 2] && value <= LIMITS[k][2 * i - 1];
        Kit kit = new Kit();
        due("4: OP " + op[0] + ", operand " + i + " is " + value, kit.patch(0, Kit.b(11, 0), op),
            fits ? 0 : 1 + 2 + i);
    }

    /** "its byte, if there is no such OP" */
    private static void everyFirstByte() {
        for (int op = 0; op < 256; op++) {
            boolean isOne = op >= 1 && op <= 34;
            // WIDTHS begin at 1, so that no bytes of 0 fit all OPS.
            int[] bytes = new int[10];
            bytes[0] = op;
            bytes[1] = op == 19 || op == 20 ? 1 : 0;
            bytes[2] = op == 12 ? 1 : 0;
            int length = isOne ? 1 + Model.LIMITS[op].length : 10;
            checked("OP " + op, isOne ? 0 : 1, java.util.Arrays.copyOf(bytes, length));
            checked("OP " + op + " behind another", isOne ? 0 : 3, Kit.b(11, 15), java.util.Arrays.copyOf(bytes, length));
        }
    }

    /** "it is not whole within the part (or PATCH) that it stands in" */
    private static void everyOpCutShort() {
        for (int[] op : OPS) {
            for (int length = 1; length < op.length; length++) {
                int[] cut = java.util.Arrays.copyOf(op, length);
                checked("cut short", 1, cut);
                checked("cut short behind another", 3, Kit.b(11, 0), cut);
                checked("cut short in a part, others behind it", 1 + 3, Kit.b(31, 0, length), op, Kit.b(11, 0));
                checked("cut short in b", 1 + 4, Kit.b(30, 0, 0, length), op);
                checked("cut short in c", 1 + 7, Kit.b(32, 0, 0, 0, 0, 0, length), op);
            }
            checked("whole in a part", 0, Kit.b(31, 0, op.length), op);
            checked("one byte more in the part", 1 + 3 + op.length, Kit.b(31, 0, op.length + 1), op, Kit.b(11, 0));
        }
        for (int[] op : new int[][] {{30, 0, 0, 0}, {31, 0, 0}, {32, 0, 0, 0, 0, 0, 0}}) {
            for (int length = 1; length < op.length; length++) {
                checked("cut short", 3, Kit.b(11, 0), java.util.Arrays.copyOf(op, length));
            }
            checked("whole", 0, Kit.b(11, 0), op);
        }
        checked("not whole is told ahead of an operand", 1, Kit.b(1, 99, 0, 0, 0));
        checked("an operand is told when it is whole", 2, Kit.b(1, 99, 0, 0, 0, 0));
    }

    /** "From the left" */
    private static void theFirstFromTheLeft() {
        checked("of two OPS the first", 2, Kit.b(11, 16), Kit.b(0));
        checked("of two operands the first", 2, Kit.b(2, 8, 8));
        checked("the second", 3, Kit.b(2, 7, 8));
        checked("the first of four", 2, Kit.b(19, 9, 8, 16, 8));
        checked("the WIDTH says what n is", 3, Kit.b(19, 6, 4, 16, 8));
        checked("another WIDTH says otherwise", 4, Kit.b(19, 5, 4, 16, 8));
        checked("an OP ahead of what is within the next", 2, Kit.b(11, 99), Kit.b(31, 0, 1, 0));
        checked("what is within ahead of the OP behind", 4, Kit.b(31, 0, 1, 0), Kit.b(0));
        checked("within a ahead of within b", 5, Kit.b(30, 0, 1, 1, 0, 0));
        checked("within b", 7, Kit.b(30, 0, 2, 1, 11, 0, 0));
        checked("within a ahead of within b and c", 8, Kit.b(32, 0, 0, 0, 1, 1, 1, 0, 0, 0));
        checked("within b ahead of within c", 10, Kit.b(32, 0, 0, 0, 2, 1, 1, 11, 0, 0, 0));
        checked("within c", 12, Kit.b(32, 0, 0, 0, 2, 2, 1, 11, 0, 11, 0, 0));
    }

    /** "a, then b, then c, if what it tells goes beyond that part; then what is within" */
    private static void partsThatGoBeyond() {
        int[] two = {11, 0};
        checked("30: a goes to the end", 0, Kit.b(30, 0, 2, 0), two);
        checked("30: a one beyond", 3, Kit.b(30, 0, 3, 0), two);
        checked("30: a one short, its OP is not whole", 5, Kit.b(30, 0, 1, 0), two);
        checked("30: b goes to the end", 0, Kit.b(30, 0, 2, 2), two, two);
        checked("30: b one beyond", 4, Kit.b(30, 0, 2, 3), two, two);
        checked("30: a and b beyond", 3, Kit.b(30, 0, 5, 5), two, two);
        checked("30: b beyond, ahead of what is within a", 4, Kit.b(30, 0, 2, 3), Kit.b(0, 0), two);
        checked("31: a goes to the end", 0, Kit.b(31, 0, 2), two);
        checked("31: a one beyond", 3, Kit.b(31, 0, 3), two);
        checked("31: a one beyond, of none", 3, Kit.b(31, 0, 1));
        checked("31: none", 0, Kit.b(31, 0, 0));
        checked("32: all go to the end", 0, Kit.b(32, 0, 0, 0, 2, 2, 2), two, two, two);
        checked("32: a one beyond", 5, Kit.b(32, 0, 0, 0, 3, 0, 0), two);
        checked("32: b one beyond", 6, Kit.b(32, 0, 0, 0, 2, 1, 0), two);
        checked("32: c one beyond", 7, Kit.b(32, 0, 0, 0, 2, 2, 1), two, two);
        checked("32: c beyond, ahead of what is within", 7, Kit.b(32, 0, 0, 0, 2, 2, 1), Kit.b(0, 0), Kit.b(0, 0));
        checked("32: b and c beyond", 6, Kit.b(32, 0, 0, 0, 2, 9, 9), two);
        // Within a part it is that part's end that counts, not the PATCH's.
        checked("a of a part within a part", 6, Kit.b(31, 0, 5), Kit.b(31, 0, 3), two, two);
        checked("it goes to the end of the part", 0, Kit.b(31, 0, 5), Kit.b(31, 0, 2), two, two);
        checked("b of a part within a part", 7, Kit.b(31, 0, 6), Kit.b(30, 0, 2, 1), two, two);
        // An operand is told ahead of parts that go beyond.
        checked("30: N 8 ahead of a", 2, Kit.b(30, 8, 9, 9));
        checked("31: N 8 ahead of a", 2, Kit.b(31, 8, 9));
        checked("30: N 7", 0, Kit.b(30, 7, 0, 0));
        checked("31: N 7", 0, Kit.b(31, 7, 0));
        checked("32: h, x, y are any bytes", 0, Kit.b(32, 255, 255, 255, 0, 0, 0));
    }

    /** "a, b, c: 0 to 200" */
    private static void partsOfMoreThan200() {
        for (int size : new int[] {200, 201, 255}) {
            checked("31 " + size, 3, Kit.b(31, 0, size));
            checked("30 a " + size, 3, Kit.b(30, 0, size, 0));
            checked("30 b " + size, 4, Kit.b(30, 0, 0, size));
            checked("32 a " + size, 5, Kit.b(32, 0, 0, 0, size, 0, 0));
            checked("32 b " + size, 6, Kit.b(32, 0, 0, 0, 0, size, 0));
            checked("32 c " + size, 7, Kit.b(32, 0, 0, 0, 0, 0, size));
        }
        // What stands behind a part begins where that ends, however long it is.
        for (int size : new int[] {2, 126, 127, 128, 129, 130, 190}) {
            int[] part = size % 2 == 0 ? Kit.times(size / 2, 11, 0) : Kit.join(Kit.b(2, 0, 0), Kit.times(size / 2 - 1, 11, 0));
            checked("31 of " + size + ", an OP behind it", 0, Kit.b(31, 0, size), part, Kit.b(11, 15));
            checked("31 of " + size + ", no OP behind it", 1 + 3 + size, Kit.b(31, 0, size), part, Kit.b(35, 0));
            checked("30 a of " + size + ", no OP behind it", 1 + 4 + size, Kit.b(30, 0, size, 0), part, Kit.b(35, 0));
            checked("30 b of " + size + ", no OP behind it", 1 + 4 + size, Kit.b(30, 0, 0, size), part, Kit.b(35, 0));
            for (int which = 0; which < 3; which++) {
                int[] head = {32, 0, 0, 0, 0, 0, 0};
                head[4 + which] = size;
                checked("32 of " + size + ", no OP behind it", 1 + 7 + size, head, part, Kit.b(35, 0));
            }
        }
        checked("as long as a part can be", 0, Kit.b(31, 0, 197), Kit.b(33, 0), Kit.times(65, 2, 0, 0));
        checked("one more", 3, Kit.b(31, 0, 198), Kit.b(33, 0), Kit.times(65, 2, 0, 0));
    }

    private static int[] wrapped(int how, int[] within) {
        return how == 0 ? Kit.choice(0, within, NO_BYTES) : how == 1 ? Kit.choice(0, NO_BYTES, within)
            : how == 2 ? Kit.rounds(0, within) : how == 3 ? Kit.scope(0, 0, within, NO_BYTES, NO_BYTES)
            : how == 4 ? Kit.scope(0, 0, NO_BYTES, within, NO_BYTES) : Kit.scope(0, 0, NO_BYTES, NO_BYTES, within);
    }

    /** "or it is one of 30 to 32 within ten of these" */
    private static void elevenInOneAnother() {
        for (int how = 0; how < 6; how++) {
            int head = how < 2 ? 4 : how == 2 ? 3 : 7;
            for (int[] last : new int[][] {{30, 0, 0, 0}, {31, 0, 0}, {32, 0, 0, 0, 0, 0, 0}}) {
                int[] nine = last;
                for (int i = 0; i < 8; i++) {
                    nine = wrapped(how, nine);
                }
                checked("nine in one another", 0, nine);
                checked("ten in one another", 0, wrapped(how, nine));
                int[] eleven = wrapped(how, wrapped(how, nine));
                checked("eleven in one another", 1 + 10 * head, eleven);
                checked("eleven behind another OP", 3 + 10 * head, Kit.b(11, 0), eleven);
            }
            int[] plain = Kit.b(34, 15);
            for (int i = 0; i < 10; i++) {
                plain = wrapped(how, plain);
            }
            checked("another OP within ten", 0, plain);
            checked("the eleventh beside ten", 0, plain, Kit.b(31, 0, 0), plain);
        }
        int[] wrong = {30, 9, 9, 9};
        for (int i = 0; i < 10; i++) {
            wrong = Kit.rounds(0, wrong);
        }
        checked("the eleventh is told ahead of its operands", 31, wrong);
    }

    /** "With more than 200 bytes that place is 200 (201 is answered, ahead of all)." */
    private static void moreThan200Bytes() {
        checked("none", 0);
        checked("198", 0, Kit.times(99, 11, 0));
        checked("199", 0, Kit.times(98, 11, 0), Kit.b(2, 0, 0));
        checked("200", 0, Kit.times(100, 11, 0));
        checked("201", 201, Kit.times(99, 11, 0), Kit.b(2, 0, 0));
        checked("202", 201, Kit.times(101, 11, 0));
        checked("201, ahead of a wrong one", 201, new int[201]);
        checked("200, the first is wrong", 1, new int[200]);
        checked("200, the last is not whole", 200, Kit.times(98, 11, 0), Kit.b(2, 0, 0), Kit.b(11));
        checked("200, the last operand", 200, Kit.times(99, 11, 0), Kit.b(11, 16));
        checked("2000", 201, Kit.times(1000, 11, 0));
    }

    /** "then it stays what it was" */
    private static void refusedPatchStays() {
        Kit kit = new Kit();
        for (int p : new int[] {0, 15}) {
            due("4: patch", kit.patch(p, Kit.n(1, 10 + p), Kit.b(34, 1)), 0);
            due("4: refused", kit.patch(p, Kit.n(1, 99), Kit.b(34, 16)), 1 + 6 + 1);
            due("4: refused", kit.patch(p, Kit.times(101, 11, 0)), 201);
            due("4: its bytes", kit.house.look(7 + p), 8);
            due("4: it does what it did", kit.house.run(p, 10), 1);
            due("4: it does what it did", kit.number(1), 10 + p);
            due("4: another one", kit.patch(p, Kit.n(1, 99)), 0);
            due("4: its bytes", kit.house.look(7 + p), 6);
            due("4: it does that", kit.house.run(p, 10), 0);
            due("4: it does that", kit.number(1), 99);
            due("4: none", kit.patch(p), 0);
            due("4: it has no bytes", kit.house.look(7 + p), 0);
            due("4: it does nothing", kit.house.run(p, 0), 0);
        }
        due("4: nothing was MADE but two FAULTS", kit.house.look(3), 16);
    }

    /** "NONE: no such PATCH (the TAPE stays)." */
    private static void noSuchPatch() {
        Kit kit = new Kit();
        kit.tape(11, 0);
        long[] before = kit.state();
        for (int p : new int[] {-1, 16, LEAST, GREATEST}) {
            due("4: PATCH " + p, kit.house.patch(p), -1);
        }
        kit.stays("4: no such PATCH", before);
        due("4: the TAPE stays", kit.house.patch(15), 0);
        due("4: it is PATCH 15 now", kit.house.look(22), 2);
        kit.tape(0, 0);
        due("4: no such PATCH, ahead of wrong bytes", kit.house.patch(16), -1);
        due("4: the TAPE stays", kit.house.look(4), 2);
        kit.tape(new int[300]);
        due("4: no such PATCH, ahead of too many", kit.house.patch(-1), -1);
        due("4: the TAPE stays", kit.house.look(4), 300);
        for (int p = 0; p < 16; p++) {
            due("4: PATCH " + p, kit.patch(p, Kit.n(p % 8, 100 + p)), 0);
        }
        for (int p = 0; p < 16; p++) {
            due("4: run " + p, kit.house.run(p, 1), 0);
            due("4: each its own", kit.number(p % 8), 100 + p);
        }
    }

    public static void main(String[] args) {
        everyByteOfEveryOperand();
        everyFirstByte();
        everyOpCutShort();
        theFirstFromTheLeft();
        partsThatGoBeyond();
        partsOfMoreThan200();
        elevenInOneAnother();
        moreThan200Bytes();
        refusedPatchStays();
        noSuchPatch();
        Kit.finish();
    }
}
