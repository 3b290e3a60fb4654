/** Promises 1 to 14, one after another: ordinary calls, the edges the document names, wrong ones. */
public final class PromisesTest extends Checks {
    private static void promise1() {
        Kit kit = new Kit();
        for (int what = 0; what < 23; what++) {
            due("1: look(" + what + ")", kit.house.look(what), 0);
        }
        for (int n = 0; n < 8; n++) {
            due("1: number", kit.number(n), 0);
        }
        for (int r = 0; r < 4; r++) {
            due("1: real", kit.real(r), 0);
        }
        for (int s = 0; s < 16; s++) {
            due("1: slot", kit.house.slot(s, 0), 0);
        }
        for (int p = 0; p < 16; p++) {
            due("1: an empty PATCH", kit.house.run(p, 0), 0);
        }
        due("1: NONE", PatchHouse.NONE, -1);
    }

    private static void promise2() {
        Kit kit = new Kit();
        due("2: feed", kit.house.feed(0x04000000, 0x0401FFFF, 0xFF7FFFFF, 0xFF800000, 0x00FEDCBA), 20);
        due("2: feed", kit.house.feed(0x98000000, 0, 0, 0, 0), 40);
        due("2: load", kit.house.load(3), 0);
        due("2: members", kit.member(3, 0), 0x01FFFFFF);
        due("2: members", kit.member(3, 1), 0x7FFFFFFF);
        due("2: members", kit.member(3, 2), 0x80000000);
        due("2: members", kit.member(3, 3), 0xFEDCBA98);
        for (int i = 1; i <= 100; i++) {
            due("2: feed", kit.house.feed(0, 0, 0, 0, 0), 20 * i);
        }
        due("2: feed beyond", kit.house.feed(1, 1, 1, 1, 1), -1);
        due("2: feed beyond", kit.house.look(4), 2000);
        due("2: end", kit.house.end(1981), 1981);
        due("2: feed beyond", kit.house.feed(1, 1, 1, 1, 1), -1);
        due("2: end", kit.house.end(1980), 1980);
        due("2: feed again", kit.house.feed(1, 1, 1, 1, 1), 2000);
    }

    private static void promise3() {
        Kit kit = new Kit();
        due("3: end", kit.house.end(0), 0);
        due("3: end", kit.house.end(1), -1);
        due("3: end", kit.house.end(-1), -1);
        kit.house.feed(0x10000000, 0x07000000, 0, 0, 0);
        due("3: end", kit.house.end(21), -1);
        due("3: end", kit.house.end(20), 20);
        due("3: end", kit.house.end(-1), -1);
        due("3: end", kit.house.look(4), 20);
        due("3: end", kit.house.end(5), 5);
        due("3: end", kit.house.end(6), -1);
        due("3: end", kit.house.look(4), 5);
        due("3: load", kit.house.load(0), 0);
        due("3: the first bytes", kit.member(0, 0), 7);
    }

    private static void promise4() {
        Kit kit = new Kit();
        due("4: patch", kit.patch(2, Kit.n(1, 5)), 0);
        due("4: its bytes", kit.house.look(9), 6);
        due("4: the TAPE", kit.house.look(4), 0);
        due("4: wrong", kit.patch(2, Kit.b(0)), 1);
        due("4: it stays", kit.house.look(9), 6);
        due("4: the TAPE", kit.house.look(4), 0);
        kit.tape(11, 0);
        due("4: no such PATCH", kit.house.patch(-1), -1);
        due("4: no such PATCH", kit.house.patch(16), -1);
        due("4: the TAPE stays", kit.house.look(4), 2);
        due("4: the last PATCH", kit.house.patch(15), 0);
        due("4: empty", kit.patch(15), 0);
        due("4: 200 bytes", kit.patch(0, Kit.times(100, 11, 0)), 0);
        due("4: 201 bytes", kit.patch(0, Kit.times(100, 11, 0), Kit.b(11)), 201);
        due("4: 202 bytes, ahead of all", kit.patch(0, Kit.times(202, 0)), 201);
        due("4: no such OP", kit.patch(0, Kit.b(11, 0, 35, 0)), 3);
        due("4: no such OP", kit.patch(0, Kit.b(255, 0, 35, 0)), 1);
        due("4: not whole", kit.patch(0, Kit.b(11, 0, 1, 0, 0, 0, 0)), 3);
        due("4: not whole, ahead of its operands", kit.patch(0, Kit.b(10, 16)), 1);
        operandsOfPromise4();
        partsOfPromise4(new Kit());
    }

    /** The greatest operands of every OP are taken, one more is its place. */
    private static void operandsOfPromise4() {
        int[][] greatest = {
            {1, 7, 255, 255, 255, 255}, {2, 7, 7}, {3, 7, 7, 6}, {5, 3, 7}, {6, 7, 3}, {7, 3, 3, 7}, {8, 3, 9},
            {4, 3, 255, 255, 255, 255, 255, 255, 255, 255}, {9, 7, 3, 3, 5}, {10, 15, 15}, {11, 15},
            {12, 15, 8, 7}, {13, 15, 7, 7}, {14, 15, 4, 7}, {15, 15, 4}, {16, 15, 7}, {17, 7, 15},
            {18, 7, 15, 19}, {19, 8, 7, 15, 7}, {19, 6, 3, 15, 7}, {19, 7, 3, 15, 7}, {20, 8, 15, 7, 7},
            {20, 5, 15, 7, 7}, {20, 6, 15, 7, 3}, {20, 7, 15, 7, 3}, {21, 15, 7, 15, 7, 7}, {22, 15, 15},
            {23, 15, 15, 7}, {24, 15, 7, 15}, {25, 15, 15, 7}, {26, 15, 7, 15}, {27, 0, 7, 15}, {27, 1, 3, 15},
            {27, 2, 7, 15}, {27, 3, 15, 15}, {28, 0, 15, 7}, {28, 1, 15, 3}, {28, 2, 15, 7}, {28, 3, 15, 15},
            {29, 5, 3, 15, 7}, {33, 15}, {34, 15},
        };
        for (int[] op : greatest) {
            Kit kit = new Kit();
            due("4: OP " + op[0], kit.patch(0, op), 0);
            for (int i = 1; i < op.length; i++) {
                if (op[i] != 255 && !(i == 1 && (op[0] == 19 || op[0] == 20 || op[0] == 27 || op[0] == 28))) {
                    int[] other = op.clone();
                    other[i]++;
                    due("4: OP " + op[0] + " operand " + i, kit.patch(0, other), 1 + i);
                }
            }
        }
        Kit kit = new Kit();
        due("4: WIDTH 9", kit.patch(0, Kit.b(19, 9, 0, 0, 0)), 2);
        due("4: WIDTH 9", kit.patch(0, Kit.b(20, 9, 0, 0, 0)), 2);
        due("4: WIDTH 0", kit.patch(0, Kit.b(19, 0, 0, 0, 0)), 2);
        due("4: WIDTH 0", kit.patch(0, Kit.b(20, 0, 0, 0, 0)), 2);
        due("4: WIDTH 0", kit.patch(0, Kit.b(12, 0, 0, 0)), 3);
        due("4: h 4", kit.patch(0, Kit.b(27, 4, 0, 0)), 2);
        due("4: h 4", kit.patch(0, Kit.b(28, 4, 0, 0)), 2);
        due("4: the first wrong operand", kit.patch(0, Kit.b(10, 16, 16)), 2);
    }

    private static void partsOfPromise4(Kit kit) {
        due("4: 30", kit.patch(0, Kit.choice(7, Kit.b(11, 0), Kit.b(11, 0, 11, 0))), 0);
        due("4: 30 n", kit.patch(0, Kit.b(30, 8, 9, 0)), 2);
        due("4: 30 a beyond", kit.patch(0, Kit.b(30, 0, 3, 0, 11, 0)), 3);
        due("4: 30 b beyond", kit.patch(0, Kit.b(30, 0, 2, 1, 11, 0)), 4);
        due("4: 30 a out of its bounds", kit.patch(0, Kit.b(30, 0, 201, 0)), 3);
        due("4: bounds are ahead of parts", kit.patch(0, Kit.b(30, 0, 9, 201)), 4);
        due("4: b beyond is ahead of what is within a", kit.patch(0, Kit.b(30, 0, 1, 9, 0)), 4);
        due("4: an OP that goes beyond its part", kit.patch(0, Kit.b(30, 0, 1, 0, 11, 0)), 5);
        due("4: what is within b", kit.patch(0, Kit.b(30, 0, 2, 2, 11, 0, 11, 16)), 8);
        due("4: behind the parts", kit.patch(0, Kit.b(30, 0, 2, 2, 11, 0, 11, 15, 0)), 9);
        due("4: 31", kit.patch(0, Kit.rounds(7, Kit.b(11, 0))), 0);
        due("4: 31 a beyond", kit.patch(0, Kit.b(31, 0, 1)), 3);
        due("4: 32", kit.patch(0, Kit.scope(255, 0xFFFF, Kit.b(11, 0), NO_BYTES, Kit.b(11, 0))), 0);
        due("4: 32 a beyond", kit.patch(0, Kit.b(32, 0, 0, 0, 1, 0, 0)), 5);
        due("4: 32 b beyond", kit.patch(0, Kit.b(32, 0, 0, 0, 2, 1, 0, 11, 0)), 6);
        due("4: 32 c beyond", kit.patch(0, Kit.b(32, 0, 0, 0, 2, 2, 1, 11, 0, 11, 0)), 7);
        due("4: 32 within c", kit.patch(0, Kit.b(32, 0, 0, 0, 0, 0, 2, 11, 99)), 9);
        due("4: a part within a part", kit.patch(0, Kit.b(31, 0, 5, 31, 0, 3, 11, 0, 11, 0)), 6);
        int[] ten = Kit.b(11, 0);
        for (int i = 0; i < 10; i++) {
            ten = i % 2 == 0 ? Kit.rounds(0, ten) : Kit.scope(0, 0, ten, NO_BYTES, NO_BYTES);
        }
        due("4: ten in one another", kit.patch(0, ten), 0);
        for (int[] last : new int[][] {{30, 0, 0, 0}, {31, 0, 0}, {32, 0, 0, 0, 0, 0, 0}}) {
            int[] eleven = Kit.join(Kit.b(11, 0), last);
            int place = 2;
            for (int i = 0; i < 10; i++) {
                eleven = Kit.choice(0, NO_BYTES, eleven);
                place += 4;
            }
            due("4: an eleventh", kit.patch(0, eleven), 1 + place);
        }
        due("4: ten beside one another", kit.patch(0, Kit.times(12, 31, 0, 0)), 0);
    }

    private static void promise5() {
        Kit kit = new Kit();
        due("5: NOTHING", kit.load(0, Kit.b(0)), 0);
        due("5: what is it", kit.house.slot(0, 0), 0);
        due("5: bytes behind", kit.load(0, Kit.b(16, 0, 0, 1, 2, 99, 99)), 0);
        due("5: TROUBLE", kit.member(0, 0), 258);
        due("5: the TAPE", kit.house.look(4), 0);
        due("5: MADE", kit.house.look(3), 4);
        kit.tape(0);
        due("5: no such SLOT", kit.house.load(16), -1);
        due("5: no such SLOT", kit.house.load(-1), -1);
        due("5: the TAPE stays", kit.house.look(4), 1);
        due("5: BYTES", kit.load(1, Kit.b(1), Kit.four(2), Kit.b(127, 128)), 0);
        due("5: BYTES", kit.member(1, 0) * 1000 + kit.member(1, 1), 127000 - 128);
        due("5: CHARS", kit.load(2, Kit.b(2), Kit.four(1), Kit.b(255, 254)), 0);
        due("5: CHARS", kit.member(2, 0), 65534);
        due("5: SHORTS", kit.load(3, Kit.b(3), Kit.four(1), Kit.b(255, 254)), 0);
        due("5: SHORTS", kit.member(3, 0), -2);
        due("5: LONGS", kit.load(4, Kit.b(5), Kit.four(1), Kit.eight(-3000000000L)), 0);
        due("5: LONGS", kit.member(4, 0), -3000000000L);
        due("5: FLOATS", kit.load(5, Kit.b(6), Kit.four(1), Kit.four(0xFFC00001)), 0);
        due("5: FLOATS", kit.member(5, 0), 0x7FC00000);
        due("5: DOUBLES", kit.load(6, Kit.b(7), Kit.four(1), Kit.eight(0xFFF0000000000001L)), 0);
        due("5: DOUBLES", kit.member(6, 0), 0x7FF8000000000000L);
        due("5: BITS", kit.load(7, Kit.b(8), Kit.four(2), Kit.b(254, 3)), 0);
        due("5: BITS", kit.member(7, 0) * 10 + kit.member(7, 1), 1);
        due("5: MADE", kit.house.look(3), 4 + 3 + 2 + 2 + 2 + 2 + 2 + 3);
        faultsOfPromise5();
        depthOfPromise5();
        fullOfPromise5();
    }

    private static void loadsAs(String what, int answer, int made, int[]... parts) {
        Kit kit = new Kit();
        kit.load(0, Kit.b(16), Kit.four(9));
        due("5: " + what, kit.load(0, parts), answer);
        due("5: MADE by " + what, kit.house.look(3), 4 + made);
        due("5: S of " + what, kit.house.slot(0, 0), answer == 0 ? Kit.join(parts)[0] : 16);
        due("5: the TAPE of " + what, kit.house.look(4), 0);
        due("5: no run ended by " + what, kit.house.look(0), 0);
    }

    private static void faultsOfPromise5() {
        int[] part = Kit.join(Kit.b(11), Kit.four(1), Kit.bits(2));
        int[] plate = Kit.join(Kit.b(14), Kit.four(1), Kit.bits(2), Kit.four(3));
        loadsAs("no bytes", 2, 8);
        loadsAs("ROW without its number", 2, 8, Kit.b(4, 0, 0, 0));
        loadsAs("ROW that ends", 2, 11, Kit.b(4, 0, 0, 0, 2, 0, 0, 0, 1, 0, 0, 0));
        loadsAs("ROW below 0", 3, 8, Kit.b(4, 128, 0, 0, 0));
        loadsAs("ROW of none", 0, 1, Kit.b(4, 0, 0, 0, 0));
        loadsAs("another first byte", 4, 8, Kit.b(17));
        loadsAs("another first byte", 4, 8, Kit.b(255));
        loadsAs("GRID", 0, 3 + 1, Kit.b(9, 0, 0, 0, 2, 0, 4, 0, 0, 0, 0));
        loadsAs("GRID below 0", 3, 8, Kit.b(9, 255, 255, 255, 255));
        loadsAs("GRID with BYTES", 4, 2 + 2 + 8, Kit.b(9, 0, 0, 0, 1, 1, 0, 0, 0, 1, 1));
        loadsAs("GRID with BYTES that end", 2, 2 + 2 + 8, Kit.b(9, 0, 0, 0, 1, 1, 0, 0, 0, 1));
        loadsAs("GRID that ends", 2, 3 + 8, Kit.b(9, 0, 0, 0, 2, 0));
        loadsAs("BOX", 0, 3 + 4, Kit.b(10, 0, 0, 0, 0, 2, 0), part);
        loadsAs("BOX of CLASS 5", 4, 8, Kit.b(10, 5));
        loadsAs("BOX without CLASS", 2, 8, Kit.b(10));
        loadsAs("BOX below 0", 3, 8, Kit.b(10, 4, 255, 0, 0, 0));
        loadsAs("BOX with TROUBLE", 4, 2 + 4 + 8, Kit.b(10, 0, 0, 0, 0, 1, 16, 0, 0, 0, 0));
        loadsAs("BOX of BOLTS with PLATE", 5, 2 + 4 + 8, Kit.b(10, 1, 0, 0, 0, 1), plate);
        loadsAs("BOX of PLATES with PART", 5, 2 + 4 + 8, Kit.b(10, 3, 0, 0, 0, 1), part);
        loadsAs("PART that ends", 2, 4 + 8, Kit.b(11, 0, 0, 0));
        loadsAs("PLATE without PRICE", 2, 4 + 8, Kit.b(14), Kit.four(1), Kit.bits(2));
        loadsAs("PLATE", 0, 4, plate);
        loadsAs("CASE without INNER", 2, 4 + 8, Kit.b(15), Kit.four(1), Kit.bits(2), Kit.four(3));
        loadsAs("CASE", 0, 4, Kit.b(15), Kit.four(1), Kit.bits(2), Kit.four(3), Kit.b(0));
        loadsAs("CASE with a GRID", 4, 4 + 1 + 8, Kit.b(15), Kit.four(1), Kit.bits(2), Kit.four(3),
            Kit.b(9, 0, 0, 0, 0));
        loadsAs("TROUBLE that ends", 2, 4 + 8, Kit.b(16, 0, 0, 0));
    }

    /** That many values in one another: CASES and BOXES, with these bytes within. */
    private static int[] nested(int values, int[] within) {
        int[] bytes = within;
        for (int i = 0; i < values; i++) {
            bytes = i % 2 == 0 ? Kit.join(Kit.b(10, 4, 0, 0, 0, 1), bytes)
                : Kit.join(Kit.b(15), Kit.four(1), Kit.bits(1), Kit.four(1), bytes);
        }
        return bytes;
    }

    private static void depthOfPromise5() {
        Kit kit = new Kit();
        due("5: 30 values", kit.load(0, nested(29, Kit.b(0))), 0);
        due("5: a 31st", kit.load(1, nested(30, Kit.b(0))), 8);
        due("5: a 31st ahead of its byte", kit.load(1, nested(30, NO_BYTES)), 8);
        due("5: the bytes end ahead", kit.load(1, nested(29, NO_BYTES)), 2);
        due("5: it stays", kit.house.slot(1, 0), 0);
    }

    private static void fullOfPromise5() {
        Kit kit = new Kit();
        due("5: a ROW too long", kit.load(0, Kit.b(1), Kit.four(40000)), 9);
        due("5: FULL", kit.house.look(6), 1);
        due("5: nothing is made", kit.house.look(3), 0);
        kit.tape(0);
        due("5: no load is begun", kit.house.load(0), 9);
        due("5: the TAPE is empty", kit.house.look(4), 0);
        due("5: no run is begun", kit.house.run(0, 7), 3);
        due("5: FUEL", kit.house.look(2), 7);

        kit = new Kit();
        due("5: the bytes end", kit.load(0, Kit.b(1), Kit.four(39983)), 2);
        due("5: MADE", kit.house.look(3), 39992);
        due("5: NEGATIVE, up to the last", kit.load(0, Kit.b(1), Kit.four(-1)), 3);
        due("5: MADE", kit.house.look(3), 40000);
        due("5: not FULL yet", kit.house.look(6), 0);
        due("5: NOTHING is not MADE", kit.load(0, Kit.b(0)), 0);
        due("5: a FAULT that does not come", kit.load(0), 9);
        due("5: FULL", kit.house.look(6), 1);
        due("5: MADE", kit.house.look(3), 40000);
    }

    private static void promise6and7() {
        Kit kit = new Kit();
        kit.saved("6: NOTHING", 4, Kit.b(0));
        int[][] forms = {
            Kit.join(Kit.b(1), Kit.four(2), Kit.b(127, 128)),
            Kit.join(Kit.b(2), Kit.four(1), Kit.b(255, 1)),
            Kit.join(Kit.b(3), Kit.four(1), Kit.b(128, 1)),
            Kit.join(Kit.b(4), Kit.four(2), Kit.four(-2), Kit.four(77)),
            Kit.join(Kit.b(5), Kit.four(1), Kit.eight(0x8123456789ABCDEFL)),
            Kit.join(Kit.b(6), Kit.four(1), Kit.four(0xBF800001)),
            Kit.join(Kit.b(7), Kit.four(1), Kit.bits(-0.1)),
            Kit.join(Kit.b(8), Kit.four(2), Kit.b(1, 0)),
            Kit.join(Kit.b(9), Kit.four(3), Kit.b(0, 4, 0, 0, 0, 0, 4, 0, 0, 0, 1), Kit.four(-9)),
            Kit.join(Kit.b(10, 1), Kit.four(3), Kit.b(13), Kit.four(-1), Kit.bits(-0.0), Kit.b(0, 12),
                Kit.four(2), Kit.bits(1e300)),
            Kit.join(Kit.b(11), Kit.four(-5), Kit.bits(2.5)),
            Kit.join(Kit.b(14), Kit.four(-5), Kit.bits(2.5), Kit.four(-6)),
            Kit.join(Kit.b(15), Kit.four(1), Kit.bits(2.5), Kit.four(-6), Kit.b(10, 2, 0, 0, 0, 0)),
            Kit.join(Kit.b(16), Kit.four(0x87654321)),
        };
        for (int[] form : forms) {
            due("6: load", kit.load(4, form), 0);
            kit.saved("6: " + form[0], 4, form);
        }
        due("6: no such SLOT", kit.house.save(16), -1);
        due("6: no such SLOT", kit.house.save(-1), -1);
        due("6: OUT stays", kit.house.look(5), 5);
        due("7: it stays", kit.out(1), 0x87);
        due("7: none", kit.out(5), Kit.MISSING);
        due("7: none", kit.out(Integer.MIN_VALUE), Kit.MISSING);
        due("7: none", kit.out(Integer.MAX_VALUE), Kit.MISSING);
        edgesOfPromise6and7();
    }

    private static void edgesOfPromise6and7() {
        Kit kit = new Kit();
        int made = kit.house.look(3);
        kit.does(0, 900, Kit.n(0, 1995), Kit.b(12, 1, 1, 0), Kit.n(0, 1996), Kit.b(12, 2, 1, 0));
        due("6: 2000 bytes", kit.house.save(1), 2000);
        due("7: the last", kit.out(1999), 0);
        due("6: 2001 bytes", kit.house.save(2), -3);
        due("6: OUT is empty", kit.house.look(5), 0);
        due("7: nothing in it", kit.out(0), Kit.MISSING);
        due("6: no FAULT is MADE", kit.house.look(3), made + 1996 + 1997);
        // A BOX that is in a CASE in it.
        kit.does(0, 900, Kit.n(0, 1), Kit.n(1, 0), Kit.b(14, 3, 0, 0), Kit.b(15, 5, 4), Kit.b(28, 3, 5, 3),
            Kit.b(26, 3, 1, 5));
        due("6: in one another", kit.house.save(3), -9);
        due("6: OUT is empty", kit.house.look(5), 0);
        due("6: load", kit.load(6, nested(29, Kit.b(0))), 0);
        kit.saved("6: 30 values", 6, nested(29, Kit.b(0)));
        // One more round the deepest of them.
        kit.does(0, 900, Kit.b(14, 7, 4, 0), Kit.b(15, 8, 4), Kit.b(28, 3, 8, 6), Kit.b(26, 7, 1, 8));
        due("6: 31 values", kit.house.save(8), -9);
    }

    private static void promise8() {
        Kit kit = new Kit();
        due("8: no such PATCH", kit.house.run(-1, 5), -1);
        due("8: no such PATCH", kit.house.run(16, 5), -1);
        due("8: FUEL below 0", kit.house.run(0, -1), -1);
        due("8: FUEL above 20000", kit.house.run(0, 20001), -1);
        due("8: FUEL 20000", kit.house.run(0, 20000), 0);
        due("8: all is left", kit.house.look(2), 20000);
        due("8: no FUEL", kit.does(0, 0, Kit.n(1, 5)), 2);
        due("8: nothing was done", kit.number(1), 0);
        due("8: one FUEL", kit.does(0, 1, Kit.n(1, 5), Kit.n(2, 6)), 2);
        due("8: what was done stays", kit.number(1), 5);
        due("8: nothing more", kit.number(2), 0);
        due("8: none is left", kit.house.look(2), 0);
        kit.run("told", 1, 7, 2, Kit.b(16, 0, 1), Kit.b(34, 0));
        due("8: look(1)", kit.house.look(1), 5);
        due("8: nothing is done", kit.house.run(0, 20001), -1);
        due("8: look stays", kit.house.look(0), 7);
        due("8: FULL", kit.does(0, 50, Kit.n(0, 40000), Kit.b(12, 1, 4, 0), Kit.n(5, 5)), 3);
        due("8: look(0)", kit.house.look(0), 0);
        due("8: look(1)", kit.house.look(1), 0);
        due("8: the FUEL of two OPS", kit.house.look(2), 48);
        due("8: look(6)", kit.house.look(6), 1);
        due("8: nothing more is done", kit.number(5), 0);
        due("8: FULL ahead", kit.does(0, 60, Kit.n(5, 5)), 3);
        due("8: nothing is done", kit.number(5), 0);
        due("8: all FUEL is left", kit.house.look(2), 60);
        due("8: other numbers, though FULL", kit.house.run(0, -1), -1);
    }

    private static void promise9() {
        Kit kit = new Kit();
        for (int p = 0; p < 16; p++) {
            kit.patch(p, Kit.times(p, 11, 0));
            due("9: PATCH " + p, kit.house.look(7 + p), 2 * p);
        }
        due("9: others", kit.house.look(-1), -1);
        due("9: others", kit.house.look(23), -1);
        due("9: others", kit.house.look(Integer.MIN_VALUE), -1);
        kit.tape(1, 2, 3);
        due("9: the TAPE", kit.house.look(4), 3);
        kit.house.save(0);
        due("9: OUT", kit.house.look(5), 1);
        kit.run("division", 1, 6, 1, Kit.b(3, 0, 0, 3));
        due("9: number", kit.house.look(1), 0);
        due("9: MADE", kit.house.look(3), 8);
        kit.load(0);
        due("9: that of the run", kit.house.look(0), 6);
        due("9: MADE by load", kit.house.look(3), 16);
        kit.run("none", 0, 0, 0);
        due("9: not FULL", kit.house.look(6), 0);
    }

    private static void promise10and11() {
        Kit kit = new Kit();
        kit.run("numbers", 0, 0, 4, Kit.n(0, -1), Kit.n(7, 0x80000000), Kit.r(0, -2.5), Kit.r(3, Double.NaN));
        due("10: N 0", kit.number(0), -1);
        due("10: N 7", kit.number(7), -2147483648);
        due("10: N 8", kit.number(8), Kit.MISSING);
        due("10: N -1", kit.number(-1), Kit.MISSING);
        due("11: R 0", kit.real(0), Double.doubleToLongBits(-2.5));
        due("11: R 3", kit.real(3), 0x7FF8000000000000L);
        due("11: R 4", kit.real(4), Kit.MISSING);
        due("11: R -1", kit.real(-1), Kit.MISSING);
        kit.run("another NaN", 0, 0, 1, Kit.join(Kit.b(4, 1), Kit.eight(0xFFF1234512345123L)));
        due("11: R 1", kit.real(1), 0x7FF8000000000000L);
    }

    private static void promise12and13() {
        Kit kit = new Kit();
        kit.run("all kinds", 0, 0, 5 + 3, Kit.n(0, 2), Kit.b(12, 1, 8, 0), Kit.b(13, 9, 0, 0),
            Kit.b(14, 10, 3, 0), Kit.b(15, 15, 4));
        due("12: BITS", kit.house.slot(1, 0), 8);
        due("12: a GRID", kit.house.slot(9, 0), 9);
        due("12: a BOX", kit.house.slot(10, 0), 10);
        due("12: a CASE", kit.house.slot(15, 0), 15);
        due("12: members", kit.house.slot(1, 1), 2);
        due("12: members", kit.house.slot(9, 1), 2);
        due("12: members", kit.house.slot(10, 1), 2);
        due("12: no members", kit.house.slot(15, 1), -1);
        due("12: no members", kit.house.slot(0, 1), -1);
        due("12: its CLASS", kit.house.slot(10, 2), 3);
        due("12: no CLASS", kit.house.slot(9, 2), -1);
        due("12: no CLASS", kit.house.slot(15, 2), -1);
        due("12: no CLASS", kit.house.slot(0, 2), -1);
        due("12: others", kit.house.slot(1, 3), -1);
        due("12: others", kit.house.slot(1, -1), -1);
        due("12: no such SLOT", kit.house.slot(16, 0), -1);
        due("12: no such SLOT", kit.house.slot(-1, 0), -1);
        kit.run("fill", 0, 0, 9, Kit.n(1, 1), Kit.n(2, -7), Kit.r(0, -0.5), Kit.b(28, 0, 15, 2), Kit.b(28, 1, 15, 0),
            Kit.b(28, 2, 15, 2), Kit.b(26, 10, 1, 15), Kit.b(16, 2, 2), Kit.b(15, 3, 2));
        due("13: a GRID's", kit.member(9, 1), 2);
        due("13: a BOX's", kit.member(10, 1), 4);
        due("13: NOTHING in a BOX", kit.member(10, 0), -1);
        due("13: beyond", kit.member(10, 2), Kit.MISSING);
        due("13: COUNT", kit.member(15, 0), -7);
        due("13: WEIGHT", kit.member(15, 1), Double.doubleToLongBits(-0.5));
        due("13: PRICE", kit.member(15, 2), -7);
        due("13: no more", kit.member(15, 3), Kit.MISSING);
        due("13: a SCREW has no PRICE", kit.member(3, 2), Kit.MISSING);
        due("13: a SCREW's WEIGHT", kit.member(3, 1), 0);
        due("13: a TROUBLE", kit.member(2, 0), -7);
        due("13: a TROUBLE has no more", kit.member(2, 1), Kit.MISSING);
        due("13: below 0", kit.member(1, -1), Kit.MISSING);
        due("13: BITS", kit.member(1, 1), 0);
        due("13: BITS beyond", kit.member(1, 2), Kit.MISSING);
        due("13: NOTHING", kit.member(0, 0), Kit.MISSING);
        due("13: no such SLOT", kit.member(16, 0), Kit.MISSING);
        due("13: no such SLOT", kit.member(-1, 0), Kit.MISSING);
        kit.run("no ROW in it", 0, 0, 2, Kit.b(11, 0), Kit.b(24, 9, 1, 0));
        due("13: NOTHING in a GRID", kit.member(9, 1), -1);
    }

    private static void promise14() {
        Kit kit = new Kit();
        kit.run("slots", 0, 0, 3, Kit.b(15, 1, 0), Kit.b(10, 2, 1), Kit.b(15, 3, 0));
        due("14: the same", kit.house.same(1, 2), 1);
        due("14: alike is not the same", kit.house.same(1, 3), 0);
        due("14: itself", kit.house.same(3, 3), 1);
        due("14: both NOTHING", kit.house.same(4, 5), 1);
        due("14: NOTHING and something", kit.house.same(4, 1), 0);
        due("14: no such SLOT", kit.house.same(16, 0), -1);
        due("14: no such SLOT", kit.house.same(0, 16), -1);
        due("14: no such SLOT", kit.house.same(-1, 0), -1);
        due("14: no such SLOT", kit.house.same(0, -1), -1);
    }

    public static void main(String[] args) {
        promise1();
        promise2();
        promise3();
        promise4();
        promise5();
        promise6and7();
        promise8();
        promise9();
        promise10and11();
        promise12and13();
        promise14();
        Kit.finish();
    }
}
