import java.util.Arrays;
import java.util.function.ToIntFunction;

/**
 * The sentences of promises 1 to 14, each with a test of its own: where it names a boundary, at it,
 * below it, above it, and what later calls show. (Those of promise 4: PatchEdgesTest.)
 */
public final class CallEdgesTest extends Checks {
    private static final int[] TROUBLE_9 = {16, 0, 0, 0, 9};

    // Promise 1.

    /** "PATCHES are empty, NUMBERS 0, REALS 0.0, SLOTS NOTHING; nothing MADE." */
    private static void aNewObject() {
        Kit other = new Kit();
        other.does(3, 100, Kit.n(2, 5), Kit.r(1, 2.5), Kit.b(15, 4, 4), Kit.b(34, 4));
        other.house.save(4);
        other.tape(1, 2, 3);
        Kit kit = new Kit();
        for (int what = 0; what <= 22; what++) {
            due("1: look(" + what + ")", kit.house.look(what), 0);
        }
        for (int n = 0; n < 8; n++) {
            due("1: NUMBERS 0", kit.number(n), 0);
        }
        for (int r = 0; r < 4; r++) {
            due("1: REALS 0.0, not -0.0", kit.real(r), 0);
        }
        for (int s = 0; s < 16; s++) {
            due("1: SLOTS NOTHING", kit.house.slot(s, 0), 0);
            due("1: SLOTS NOTHING", kit.member(s, 0), Kit.MISSING);
            due("1: all the same", kit.house.same(s, 15 - s), 1);
        }
        for (int p = 0; p < 16; p++) {
            due("1: PATCHES are empty", kit.house.run(p, 0), 0);
        }
        due("1: OUT is empty", kit.out(0), Kit.MISSING);
        due("1: the TAPE is empty", kit.house.end(1), -1);
        due("1: an empty TAPE has no FORM", kit.house.load(0), 2);
    }

    // Promise 2.

    /** "Twenty bytes come behind the TAPE, of each int the highest first: how many it has" */
    private static void twentyBytesEach() {
        Kit kit = new Kit();
        due("2: the first twenty", kit.house.feed(0x01000000, 0x23FF8001, 0x7F000255, 0xFEFDFCFB, 0x80000000), 20);
        due("2: twenty more", kit.house.feed(LEAST, GREATEST, -1, 0, 1), 40);
        due("2: look(4)", kit.house.look(4), 40);
        due("2: they are BYTES", kit.house.load(2), 0);
        int[] want = {
            0xFF, 0x80, 0x01, 0x7F, 0, 0x02, 0x55, 0xFE, 0xFD, 0xFC, 0xFB, 0x80, 0, 0, 0,
            0x80, 0, 0, 0, 0x7F, 0xFF, 0xFF, 0xFF, 0xFF, 0xFF, 0xFF, 0xFF, 0, 0, 0, 0, 0, 0, 0, 1,
        };
        due("2: that many", kit.house.slot(2, 1), want.length);
        for (int i = 0; i < want.length; i++) {
            due("2: the highest first, " + i, kit.member(2, i), (byte) want[i]);
        }
    }

    /** "NONE, and none comes, if these would be more than 2000" */
    private static void feedBeyond2000() {
        Kit kit = new Kit();
        // BYTES, 1995 of them: 2000 bytes with the five ahead.
        kit.house.feed(0x01000007, 0xCB111111, 0x11111111, 0x11111111, 0x11111111);
        for (int i = 2; i <= 99; i++) {
            due("2: feed", kit.house.feed(0x11111111, 0x11111111, 0x11111111, 0x11111111, 0x11111111), 20 * i);
        }
        due("2: at 1980 there is room for 20", kit.house.feed(0x22222222, 0x22222222, 0x22222222, 0x22222222,
            0x22222233), 2000);
        for (int i = 0; i < 3; i++) {
            due("2: at 2000 there is none", kit.house.feed(1, 2, 3, 4, 5), -1);
            due("2: at 2000 none comes", kit.house.look(4), 2000);
        }
        due("2: the bytes are those that came", kit.house.load(0), 0);
        due("2: the last but one", kit.member(0, 1993), 0x22);
        due("2: the last", kit.member(0, 1994), 0x33);
        due("2: then there is room again", kit.house.feed(0, 0, 0, 0, 0), 20);
    }

    private static void feedAroundTheEnd() {
        for (int had : new int[] {1979, 1980, 1981, 1990, 1999, 2000}) {
            Kit kit = new Kit();
            for (int i = 0; i < 100; i++) {
                kit.house.feed(0, 0, 0, 0, 0);
            }
            kit.house.end(had);
            boolean fits = had <= 1980;
            due("2: feed at " + had, kit.house.feed(-1, -1, -1, -1, -1), fits ? had + 20 : -1);
            due("2: bytes behind " + had, kit.house.look(4), fits ? had + 20 : had);
            due("2: again behind " + had, kit.house.feed(-1, -1, -1, -1, -1), -1);
            due("2: end behind " + had, kit.house.end(had + 1), fits ? had + 1 : -1);
        }
    }

    // Promise 3.

    /** "The TAPE has its first n bytes alone: n; NONE if it has less, or n is below 0." */
    private static void endOfTheTape() {
        Kit kit = new Kit();
        due("3: 0 of none", kit.house.end(0), 0);
        for (int n : new int[] {1, -1, LEAST, GREATEST}) {
            due("3: " + n + " of none", kit.house.end(n), -1);
        }
        kit.house.feed(0x01000000, 0x0A010203, 0x04050607, 0x08090A0B, 0x0C0D0E0F);
        for (int n : new int[] {21, GREATEST, -1, LEAST}) {
            due("3: " + n + " of 20", kit.house.end(n), -1);
            due("3: 20 stay", kit.house.look(4), 20);
        }
        due("3: 20 of 20", kit.house.end(20), 20);
        due("3: 19 of 20", kit.house.end(19), 19);
        due("3: 20 of 19", kit.house.end(20), -1);
        due("3: 7 of 19", kit.house.end(7), 7);
        due("3: look(4)", kit.house.look(4), 7);
        due("3: 8 of 7", kit.house.end(8), -1);
        due("3: twenty come behind the 7", kit.house.feed(0x31323334, 0x35363738, 0x393A3B3C, 0, 0), 27);
        due("3: load", kit.house.load(1), 0);
        long[] want = {1, 2, 0x31, 0x32, 0x33, 0x34, 0x35, 0x36, 0x37, 0x38};
        for (int i = 0; i < want.length; i++) {
            due("3: the first 7 alone, then those behind: " + i, kit.member(1, i), want[i]);
        }
        kit.house.feed(1, 2, 3, 4, 5);
        due("3: 0 of 20", kit.house.end(0), 0);
        due("3: none are left", kit.house.end(1), -1);
        due("3: no bytes, so BOUNDS", kit.house.load(1), 2);
    }

    // Promise 5.

    /** "NONE: no such SLOT (the TAPE stays)." */
    private static void loadOfNoSuchSlot() {
        Kit kit = new Kit();
        kit.tape(TROUBLE_9);
        long[] before = kit.state();
        for (int s : new int[] {-1, 16, LEAST, GREATEST}) {
            due("5: SLOT " + s, kit.house.load(s), -1);
        }
        kit.stays("5: no such SLOT", before);
        due("5: the TAPE stays", kit.house.load(15), 0);
        due("5: in the last SLOT", kit.member(15, 0), 9);
        for (int s = 0; s < 16; s++) {
            due("5: SLOT " + s, kit.load(s, Kit.b(16), Kit.four(100 + s)), 0);
        }
        for (int s = 0; s < 16; s++) {
            due("5: each its own", kit.member(s, 0), 100 + s);
        }
    }

    /** "What the TAPE (empty then) has the FORM of is SLOT s (bytes behind it are not looked at): 0" */
    private static void loadTakesTheTape() {
        Kit kit = new Kit();
        for (int[] behind : new int[][] {NO_BYTES, {0}, {255, 255}, {1, 128, 0, 0, 0}, new int[1995]}) {
            due("5: with " + behind.length + " behind", kit.load(0, TROUBLE_9, behind), 0);
            due("5: the TAPE is empty then", kit.house.look(4), 0);
            due("5: it is SLOT 0", kit.member(0, 0), 9);
        }
        due("5: nothing is left of the TAPE", kit.house.load(0), 2);
        due("5: five TROUBLES and a FAULT", kit.house.look(3), 5 * 4 + 8);
        due("5: NOTHING", kit.load(0, Kit.b(0)), 0);
        due("5: NOTHING in it now", kit.house.slot(0, 0), 0);
        due("5: a ROW of 1995", kit.load(1, Kit.b(1), Kit.four(1995), new int[1995]), 0);
        due("5: up to the last byte", kit.house.slot(1, 1), 1995);
        due("5: a ROW of 1996", kit.load(1, Kit.b(1), Kit.four(1996), new int[1995]), 2);
        due("5: S 1 stays", kit.house.slot(1, 1), 1995);
    }

    /** "or the FAULT's kind, 9 if it is FULL: S s stays" */
    private static void loadThatFails() {
        int[][] forms = {
            {16, 0, 0, 0}, {1, 255, 255, 255, 255}, {17}, {10, 1, 0, 0, 0, 1, 11, 0, 0, 0, 0, 0, 0, 0, 0, 0, 0, 0, 0},
        };
        int[] kinds = {2, 3, 4, 5};
        int[] made = {4, 0, 0, 2 + 4};
        for (int i = 0; i < forms.length; i++) {
            Kit kit = new Kit();
            kit.load(6, TROUBLE_9);
            kit.run("told", 1, 7, 1, Kit.b(34, 6));
            int had = kit.house.look(3);
            due("5: kind " + kinds[i], kit.load(6, forms[i]), kinds[i]);
            due("5: the TAPE is empty then", kit.house.look(4), 0);
            due("5: S s stays", kit.house.slot(6, 0) * 100 + kit.member(6, 0), 1609);
            due("5: what was made stays counted, and the FAULT", kit.house.look(3), had + made[i] + 8);
            due("5: it ended no run", kit.house.look(0) * 100 + kit.house.look(1), 709);
            due("5: it is not FULL", kit.house.look(6), 0);
            due("5: the next load is as ever", kit.load(6, Kit.b(0)), 0);
            due("5: the next run is as ever", kit.house.run(0, 1), 0);
        }
    }

    /** "9 if it is FULL", and "no run and no load is begun any more" */
    private static void loadThatIsFull() {
        Kit kit = new Kit();
        kit.load(6, TROUBLE_9);
        due("5: one member more than there is room for", kit.load(6, Kit.b(8), Kit.four(39996), NO_BYTES), 9);
        due("5: nothing of it is made", kit.house.look(3), 4);
        due("5: FULL", kit.house.look(6), 1);
        due("5: S s stays", kit.member(6, 0), 9);
        for (int s = 0; s < 2; s++) {
            kit.tape(0);
            due("5: no load is begun, not even of NOTHING", kit.house.load(6), 9);
            due("5: S s stays", kit.member(6, 0), 9);
            due("5: the TAPE is empty then", kit.house.look(4), 0);
        }
        kit.tape(0);
        due("5: no such SLOT, though FULL", kit.house.load(16), -1);
        due("5: the TAPE stays", kit.house.look(4), 1);
        due("5: no run is begun", kit.house.run(0, 20000), 3);
        due("5: patch() is as ever", kit.patch(4, Kit.b(11, 6)), 0);
        due("5: save() is as ever", kit.house.save(6), 5);
        due("5: MADE stays", kit.house.look(3), 4);
    }

    // Promises 6 and 7.

    /** "OUT is the FORM of SLOT s: how many bytes; - 1 less the FAULT's kind: OUT is empty." */
    private static void saveAroundItsLimit() {
        // BYTES: five bytes ahead of the members. LONGS: eight bytes each.
        for (int[] row : new int[][] {{1, 1994}, {1, 1995}, {1, 1996}, {5, 249}, {5, 250}, {6, 498}, {6, 499}}) {
            Kit kit = new Kit();
            kit.load(3, TROUBLE_9);
            kit.does(0, 1000, Kit.n(0, row[1]), Kit.b(12, 1, row[0], 0));
            int bytes = 5 + row[1] * Model.BYTES[row[0]];
            boolean fits = bytes <= 2000;
            due("6: something is in OUT", kit.house.save(3), 5);
            int made = kit.house.look(3);
            due("6: " + bytes + " bytes", kit.house.save(1), fits ? bytes : -3);
            due("6: look(5) of " + bytes, kit.house.look(5), fits ? bytes : 0);
            due("7: the first of " + bytes, kit.out(0), fits ? row[0] : Kit.MISSING);
            due("7: the last of " + bytes, kit.out(bytes - 1), fits ? 0 : Kit.MISSING);
            due("7: behind the last", kit.out(bytes), Kit.MISSING);
            due("6: a FAULT in save() is not MADE", kit.house.look(3), made);
            due("6: it is not that of a run", kit.house.look(0), 0);
            due("6: then another", kit.house.save(3), 5);
            due("7: then another", kit.out(4), 9);
        }
    }

    private static int[] caseWith(int[] inner) {
        return Kit.join(Kit.b(15), new int[16], inner);
    }

    /** "NONE: no such SLOT (OUT stays)." */
    private static void saveOfNoSuchSlot() {
        Kit kit = new Kit();
        due("6: load", kit.load(15, TROUBLE_9), 0);
        due("6: the last SLOT", kit.house.save(15), 5);
        long[] before = kit.state();
        for (int s : new int[] {-1, 16, LEAST, GREATEST}) {
            due("6: SLOT " + s, kit.house.save(s), -1);
        }
        kit.stays("6: no such SLOT", before);
        due("6: OUT stays", kit.out(4), 9);
        due("6: the first SLOT", kit.house.save(0), 1);
        due("7: its byte", kit.out(0), 0);
        due("7: those of the other one are gone", kit.out(1), Kit.MISSING);
    }

    /** "Byte i of OUT. NoSuchElementException if there is none such." */
    private static void bytesOfOut() {
        Kit kit = new Kit();
        for (int i : new int[] {0, -1, 1, LEAST, GREATEST}) {
            due("7: nothing was saved, " + i, kit.out(i), Kit.MISSING);
        }
        kit.load(0, Kit.b(1), Kit.four(4), Kit.b(127, 128, 255, 0));
        due("7: save", kit.house.save(0), 9);
        int[] want = {1, 0, 0, 0, 4, 127, 128, 255, 0};
        for (int i = 0; i < want.length; i++) {
            due("7: byte " + i, kit.out(i), want[i]);
        }
        for (int i : new int[] {-1, 9, 10, 1999, 2000, LEAST, GREATEST}) {
            due("7: none such, " + i, kit.out(i), Kit.MISSING);
        }
        kit.does(0, 10, Kit.b(11, 0));
        due("7: OUT is not the SLOT", kit.out(6), 128);
        kit.load(0, TROUBLE_9);
        due("7: nor the TAPE", kit.out(8), 0);
    }

    // Promise 8.

    /** "PATCH p with so much FUEL (0 to 20000)", "NONE, and nothing is done, for other numbers." */
    private static void runOfOtherNumbers() {
        Kit kit = new Kit();
        for (int p = 0; p < 16; p++) {
            kit.patch(p, Kit.b(3, 1, 0, 0));
        }
        kit.does(0, 77, Kit.n(0, 1), Kit.b(16, 2, 0), Kit.b(34, 2));
        long[] before = kit.state();
        int[][] others = {
            {-1, 5}, {16, 5}, {LEAST, 5}, {GREATEST, 5}, {0, -1}, {0, 20001}, {0, LEAST}, {0, GREATEST}, {16, -1},
        };
        for (int[] other : others) {
            due("8: run(" + other[0] + ", " + other[1] + ")", kit.house.run(other[0], other[1]), -1);
        }
        kit.stays("8: nothing is done", before);
        due("8: the last PATCH, the least FUEL", kit.house.run(15, 0), 2);
        due("8: nothing was done", kit.number(1), 0);
        due("8: the last PATCH, all FUEL", kit.house.run(15, 20000), 0);
        due("8: it was done", kit.number(1), 1);
        due("8: FUEL is left", kit.house.look(2), 19999);
        due("8: one less", kit.house.run(1, 19999), 0);
        due("8: FUEL is left", kit.house.look(2), 19998);
        due("8: the first PATCH", kit.house.run(0, 20000), 1);
    }

    /** "0 done, 1 a FAULT that no SCOPE took, 2 FUEL, 3 FULL" */
    private static void answersOfRun() {
        Kit kit = new Kit();
        int[] told = Kit.join(Kit.n(1, 55), Kit.b(16, 2, 1), Kit.b(34, 2));
        kit.run("8: done", 0, 0, 1, Kit.n(3, 3));
        kit.run("8: a FAULT that no SCOPE took", 1, 7, 3, told);
        due("8: its number", kit.house.look(1), 55);
        kit.run("8: done, though there was a FAULT", 0, 0, 4, Kit.scope(64, 0, told, NO_BYTES, NO_BYTES));
        due("8: no number", kit.house.look(1), 0);
        kit.run("8: a FAULT again", 1, 7, 3, told);
        due("8: FUEL", kit.does(1, 2, told), 2);
        due("8: no FAULT ended it", kit.house.look(0) + kit.house.look(1), 0);
        due("8: none is left", kit.house.look(2), 0);
        kit.run("8: a FAULT again", 1, 7, 3, told);
        due("8: FULL", kit.does(1, 20, Kit.n(1, 40000), Kit.b(12, 2, 4, 1)), 3);
        due("8: no FAULT ended it", kit.house.look(0) + kit.house.look(1), 0);
        due("8: FUEL that is left", kit.house.look(2), 18);
    }

    /** "3 FULL (also if it was FULL ahead: nothing is done, all FUEL is left)" */
    private static void runThatIsFullAhead() {
        Kit kit = new Kit();
        kit.patch(2, Kit.n(4, 4), Kit.b(34, 9));
        kit.patch(3);
        due("8: FULL", kit.does(1, 20, Kit.n(1, 40000), Kit.b(12, 2, 4, 1), Kit.n(4, 4)), 3);
        for (int fuel : new int[] {0, 1, 500, 20000}) {
            due("8: FULL ahead", kit.house.run(2, fuel), 3);
            due("8: all FUEL is left", kit.house.look(2), fuel);
            due("8: nothing is done", kit.number(4), 0);
            due("8: no FAULT", kit.house.look(0), 0);
            due("8: FULL ahead, of an empty PATCH", kit.house.run(3, fuel), 3);
        }
        long[] before = kit.state();
        due("8: other numbers, though FULL", kit.house.run(16, 5), -1);
        due("8: other numbers, though FULL", kit.house.run(0, 20001), -1);
        kit.stays("8: nothing is done", before);
    }

    // Promise 9.

    /** "NONE for others." */
    private static void lookAtOthers() {
        Kit kit = new Kit();
        for (int what : new int[] {-1, 23, 24, LEAST, GREATEST}) {
            due("9: look(" + what + ")", kit.house.look(what), -1);
        }
        due("9: look(22) is PATCH 15", kit.house.look(22), 0);
        due("9: look(7) is PATCH 0", kit.house.look(7), 0);
    }

    /** "0 the kind of the FAULT that ended the latest run() (0 if none did), 1 its number, 2 FUEL that is left" */
    private static void lookAtTheLatestRun() {
        Kit kit = new Kit();
        for (int number : new int[] {GREATEST, 0, LEAST, -1}) {
            kit.run("9: told", 1, 7, 3, Kit.n(1, number), Kit.b(16, 2, 1), Kit.b(34, 2));
            due("9: its number", kit.house.look(1), number);
        }
        kit.run("9: not told", 1, 1, 1, Kit.b(34, 9));
        due("9: then it has no number", kit.house.look(1), 0);
        kit.load(5, Kit.b(99));
        due("9: the FAULT of a load() is none of a run()", kit.house.look(0), 1);
        kit.house.save(1);
        due("9: FUEL of the latest run()", kit.house.look(2), 999);
        due("9: an empty run", kit.house.run(7, 12), 0);
        due("9: none did", kit.house.look(0), 0);
        due("9: FUEL of the latest run()", kit.house.look(2), 12);
    }

    /** "3 MADE in all, 4 bytes of the TAPE, 5 of OUT, 6 whether it was FULL (1), 7 + p bytes of PATCH p" */
    private static void lookAtTheRest() {
        Kit kit = new Kit();
        for (int p = 0; p < 16; p++) {
            due("9: patch", kit.patch(p, Kit.times(p == 15 ? 100 : p, 11, 0)), 0);
        }
        for (int p = 0; p < 16; p++) {
            due("9: bytes of PATCH " + p, kit.house.look(7 + p), p == 15 ? 200 : 2 * p);
        }
        due("9: no bytes again", kit.patch(15), 0);
        due("9: bytes of PATCH 15", kit.house.look(22), 0);
        kit.tape(new int[2000]);
        due("9: bytes of the TAPE", kit.house.look(4), 2000);
        due("9: bytes of OUT", kit.house.look(5), 0);
        kit.house.save(0);
        due("9: bytes of OUT", kit.house.look(5), 1);
        kit.fillTo(40000);
        due("9: MADE in all", kit.house.look(3), 40000);
        due("9: not FULL", kit.house.look(6), 0);
        due("9: one more", kit.does(0, 9, Kit.n(1, 0), Kit.b(12, 0, 4, 1)), 3);
        due("9: MADE in all", kit.house.look(3), 40000);
        due("9: FULL", kit.house.look(6), 1);
    }

    // Promises 10 and 11.

    /** "NUMBER n. NoSuchElementException if there is none such.", "The bits of REAL r. ..." */
    private static void numbersAndReals() {
        Kit kit = new Kit();
        int[] bytes = NO_BYTES;
        for (int n = 0; n < 8; n++) {
            bytes = Kit.join(bytes, Kit.n(n, n % 2 == 0 ? GREATEST - n : LEAST + n));
        }
        bytes = Kit.join(bytes, Kit.r(0, Double.MAX_VALUE), Kit.r(1, -0.0), Kit.r(2, Double.NEGATIVE_INFINITY),
            Kit.b(4, 3), Kit.eight(0xFFFFFFFFFFFFFFFFL));
        due("10: run", kit.does(0, 50, bytes), 0);
        for (int n = 0; n < 8; n++) {
            due("10: NUMBER " + n, kit.number(n), n % 2 == 0 ? GREATEST - n : LEAST + n);
        }
        long[] reals = {0x7FEFFFFFFFFFFFFFL, 0x8000000000000000L, 0xFFF0000000000000L, 0x7FF8000000000000L};
        for (int r = 0; r < 4; r++) {
            due("11: REAL " + r, kit.real(r), reals[r]);
        }
        for (int i : new int[] {-1, 8, 15, LEAST, GREATEST}) {
            due("10: NUMBER " + i, kit.number(i), Kit.MISSING);
        }
        for (int i : new int[] {-1, 4, 7, LEAST, GREATEST}) {
            due("11: REAL " + i, kit.real(i), Kit.MISSING);
        }
        due("10: it goes on", kit.number(7), LEAST + 7);
    }

    // Promises 12 to 14.

    /** "1 how many members (NONE if it has none such), 2 a BOX's CLASS (NONE). NONE for others." */
    private static void slotOfEachKind() {
        Kit kit = allKinds();
        for (int s = 0; s < 16; s++) {
            int kind = s == 0 ? 16 : s;
            due("12: what " + kind + " is", kit.house.slot(s, 0), kind);
            due("12: how many members " + kind + " has", kit.house.slot(s, 1), kind <= 10 ? 3 : -1);
            due("12: the CLASS of " + kind, kit.house.slot(s, 2), kind == 10 ? 0 : -1);
            for (int what : new int[] {-1, 3, LEAST, GREATEST}) {
                due("12: others", kit.house.slot(s, what), -1);
            }
        }
        for (int s : new int[] {-1, 16, LEAST, GREATEST}) {
            for (int what = -1; what <= 3; what++) {
                due("12: SLOT " + s, kit.house.slot(s, what), -1);
            }
        }
        kit = new Kit();
        due("12: NOTHING", kit.house.slot(0, 0), 0);
        due("12: NOTHING has no members", kit.house.slot(0, 1), -1);
        due("12: NOTHING has no CLASS", kit.house.slot(0, 2), -1);
        for (int c = 0; c < 5; c++) {
            due("12: a BOX of none", kit.load(c, Kit.b(10, c), Kit.four(0)), 0);
            due("12: has 0 members", kit.house.slot(c, 1), 0);
            due("12: and a CLASS", kit.house.slot(c, 2), c);
        }
    }

    /** "Member i of SLOT s ... NoSuchElementException if there is none such." */
    private static void memberOfEachKind() {
        Kit kit = allKinds();
        for (int s = 0; s < 16; s++) {
            int kind = s == 0 ? 16 : s;
            int places = kind <= 10 || kind == 14 || kind == 15 ? 3 : kind == 16 ? 1 : 2;
            for (int i = 0; i < places; i++) {
                due("13: " + i + " of " + kind, kit.member(s, i), kind == 9 ? 2 : kind == 10 || kind == 16 ? -1 : 0);
            }
            for (int i : new int[] {-1, places, places + 1, LEAST, GREATEST}) {
                due("13: " + i + " of " + kind, kit.member(s, i), Kit.MISSING);
            }
        }
        for (int s : new int[] {-1, 16, LEAST, GREATEST}) {
            due("13: SLOT " + s, kit.member(s, 0), Kit.MISSING);
        }
        kit = new Kit();
        due("13: NOTHING has none", kit.member(0, 0), Kit.MISSING);
        for (int kind = 1; kind <= 10; kind++) {
            due("13: none in it", kit.load(kind, Kit.b(kind), kind == 10 ? Kit.b(0) : NO_BYTES, Kit.four(0)), 0);
            due("13: none in it", kit.member(kind, 0), Kit.MISSING);
        }
    }

    /** "of ROWS the number, of FLOATS, DOUBLES the bits; of GRIDS how many its ROW has, of BOXES its CLASS" */
    private static void memberAtItsBounds() {
        Kit kit = new Kit();
        kit.load(1, Kit.b(1), Kit.four(2), Kit.b(128, 127));
        kit.load(2, Kit.b(2), Kit.four(2), Kit.b(255, 255, 0, 0));
        kit.load(3, Kit.b(3), Kit.four(2), Kit.b(128, 0, 127, 255));
        kit.load(4, Kit.b(4), Kit.four(2), Kit.four(LEAST), Kit.four(GREATEST));
        kit.load(5, Kit.b(5), Kit.four(2), Kit.eight(Long.MIN_VALUE), Kit.eight(Long.MAX_VALUE));
        kit.load(6, Kit.b(6), Kit.four(2), Kit.four(0xFF800000), Kit.four(0x7F7FFFFF));
        kit.load(7, Kit.b(7), Kit.four(2), Kit.eight(0xFFF0000000000000L), Kit.eight(0x7FEFFFFFFFFFFFFFL));
        kit.load(8, Kit.b(8), Kit.four(2), Kit.b(254, 255));
        kit.load(9, Kit.b(9), Kit.four(2), Kit.b(0, 4, 0, 0, 0, 0));
        kit.load(10, Kit.b(10, 3), Kit.four(2), Kit.b(0), caseWith(Kit.b(0)));
        long[][] want = {
            {}, {-128, 127}, {65535, 0}, {-32768, 32767}, {LEAST, GREATEST}, {Long.MIN_VALUE, Long.MAX_VALUE},
            {0xFF800000, 0x7F7FFFFF}, {0xFFF0000000000000L, 0x7FEFFFFFFFFFFFFFL}, {0, 1}, {-1, 0}, {-1, 4},
        };
        for (int s = 1; s <= 10; s++) {
            due("13: 0 of kind " + s, kit.member(s, 0), want[s][0]);
            due("13: 1 of kind " + s, kit.member(s, 1), want[s][1]);
        }
    }

    /** "Whether two SLOTS have the same one (1, also both NOTHING) or not (0); NONE if there are none such." */
    private static void sameOnes() {
        Kit kit = allKinds();
        for (int s = 0; s < 16; s++) {
            due("14: itself", kit.house.same(s, s), 1);
            due("14: another one", kit.house.same(s, (s + 1) % 16), 0);
        }
        int[][] others = {
            {-1, 0}, {0, -1}, {16, 0}, {0, 16}, {16, 16}, {-1, -1}, {LEAST, 3}, {3, GREATEST},
        };
        for (int[] other : others) {
            due("14: " + other[0] + ", " + other[1], kit.house.same(other[0], other[1]), -1);
        }
        kit.run("14: alike", 0, 0, 6 + 1, Kit.n(0, 0), Kit.b(11, 2), Kit.b(11, 3), Kit.b(12, 4, 1, 0), Kit.b(10, 5, 4),
            Kit.b(22, 6, 1));
        due("14: both NOTHING", kit.house.same(2, 3), 1);
        due("14: NOTHING and something", kit.house.same(2, 4), 0);
        due("14: the same one", kit.house.same(5, 4), 1);
        due("14: a CLONE is another one", kit.house.same(6, 1), 0);
        kit.run("14: NOTHING again", 0, 0, 1, Kit.b(11, 4));
        due("14: no more the same one", kit.house.same(5, 4), 0);
    }

    // All calls.

    // Where Kit.state() has what look() tells of the TAPE, of OUT, and of PATCH 0; where OUT's first bytes stand.
    private static final int MADE_IN_ALL = 3;
    private static final int TAPE = 4;
    private static final int OUT = 5;
    private static final int PATCH_0 = 7;
    private static final int FIRST_OF_OUT = 35;
    private static final int SECOND_OF_OUT = 36;
    private static final int S_0 = 37;

    /** Something everywhere: PATCHES, NUMBERS, REALS, SLOTS, the TAPE, OUT, a FAULT of the latest run. */
    private static Kit somethingEverywhere() {
        Kit kit = allKinds();
        kit.does(1, 50, Kit.r(0, 0.5), Kit.r(1, -1.5), Kit.r(2, 2.5), Kit.r(3, -3.5), Kit.n(7, 77));
        due("all: save", kit.house.save(14), 17);
        kit.run("all: told", 1, 7, 1, Kit.b(34, 0));
        kit.tape(11, 3);
        return kit;
    }

    /** A call changes what the state has at these places, and nothing else. */
    private static void changes(String what, int answer, ToIntFunction<House> call, int... places) {
        Kit kit = somethingEverywhere();
        long[] before = kit.state();
        due("all: " + what, call.applyAsInt(kit.house), answer);
        long[] after = kit.state();
        due("all: " + what + ": as many things", after.length, before.length);
        for (int i = 0; i < Math.min(before.length, after.length); i++) {
            boolean stays = before[i] == after[i];
            boolean mayChange = Arrays.binarySearch(places, i) >= 0;
            due("all: " + what + ": place " + i + (mayChange ? " changes" : " stays"), stays ? 1 : 0, mayChange ? 0 : 1);
        }
    }

    private static int tapeAndLoad(House house, int a, int b) {
        house.end(0);
        house.feed(a, b, 0, 0, 0);
        return house.load(0);
    }

    /** "Nothing is promised beyond the answers and state changes described above": a call leaves the rest as it was. */
    private static void callsLeaveTheRest() {
        changes("feed", 22, house -> house.feed(1, 2, 3, 4, 5), TAPE);
        changes("end", 1, house -> house.end(1), TAPE);
        changes("patch", 0, house -> house.patch(0), TAPE, PATCH_0);
        changes("patch, refused", 2, house -> house.end(1) - 1 + house.feed(0x10000000, 0, 0, 0, 0) - 21 + house.patch(0), TAPE);
        changes("load of a TROUBLE", 0, house -> tapeAndLoad(house, 0x10000000, 0x05000000), MADE_IN_ALL, TAPE, S_0 + 3);
        changes("load of no value", 4, house -> tapeAndLoad(house, 0x11000000, 0), MADE_IN_ALL, TAPE);
        changes("load of a value that does not end", 2, house -> house.end(0) + house.load(0), MADE_IN_ALL, TAPE);
        changes("save", 18, house -> house.save(15), OUT, FIRST_OF_OUT);
        changes("save of the same one again", 17, house -> house.save(14));
        changes("save of a TROUBLE", 5, house -> house.save(0), OUT, FIRST_OF_OUT, SECOND_OF_OUT);
        changes("run of an empty PATCH", 0, house -> house.run(9, 3), 0, 1, 2);
        changes("out", 14, house -> house.out(0));
        changes("look", 7, house -> house.look(0));
        changes("number", 77, house -> house.number(7));
        changes("real", 1, house -> house.real(1) == Double.doubleToLongBits(-1.5) ? 1 : 0);
        changes("slot", 15, house -> house.slot(15, 0));
        changes("member", -1, house -> (int) house.member(0, 0));
        changes("same", 0, house -> house.same(1, 2));
    }

    /** What came onto the TAPE later changes neither a PATCH nor a value that was taken from it. */
    private static void whatWasTakenFromTheTape() {
        Kit kit = new Kit();
        due("all: load", kit.load(0, Kit.b(1), Kit.four(3), Kit.b(7, 8, 9)), 0);
        due("all: patch", kit.patch(1, Kit.n(1, 0x0A0B0C0D)), 0);
        kit.house.feed(-1, -1, -1, -1, -1);
        due("all: the PATCH", kit.house.run(1, 1), 0);
        due("all: the PATCH", kit.number(1), 0x0A0B0C0D);
        kit.saved("all: the value", 0, Kit.b(1), Kit.four(3), Kit.b(7, 8, 9));
        kit.does(2, 9, Kit.n(2, 55), Kit.b(20, 1, 0, 7, 2));
        due("all: what was saved is not the value", kit.out(5), 7);
        due("all: the value itself", kit.member(0, 0), 55);
    }

    /** "NUMBERS N0 to N7 (ints), REALS R0 to R3 (doubles), SLOTS S0 to S15 are those of the house." */
    private static void thoseOfTheHouse() {
        Kit kit = new Kit();
        kit.patch(3, Kit.n(4, 44), Kit.r(2, 2.5), Kit.b(16, 9, 4));
        kit.patch(4, Kit.b(2, 5, 4), Kit.b(7, 3, 2, 0), Kit.b(10, 8, 9), Kit.n(4, 45));
        due("2: one PATCH in another, and what is behind it", kit.does(5, 20, Kit.b(33, 3), Kit.b(33, 4), Kit.b(2, 6, 4)), 0);
        due("2: N 5", kit.number(5), 44);
        due("2: N 6", kit.number(6), 45);
        dueReal("2: R 3", kit, 3, 2.5);
        due("2: S 8", kit.house.same(8, 9), 1);
        due("2: the next run has them, too", kit.house.run(4, 20), 0);
        due("2: N 5", kit.number(5), 45);
        dueReal("2: R 3", kit, 3, 5.0);
        due("2: a run that a FAULT ended", kit.does(6, 20, Kit.n(4, 46), Kit.r(2, 1.0), Kit.b(34, 0)), 1);
        due("2: leaves them, too", kit.house.run(4, 20), 0);
        due("2: N 5", kit.number(5), 46);
        dueReal("2: R 3", kit, 3, 6.0);
        due("2: a load has its SLOT there", kit.load(9, Kit.b(16), Kit.four(3)), 0);
        due("2: the next run has it", kit.house.run(4, 20), 0);
        due("2: S 8", kit.member(8, 0), 3);
    }

    /** Two objects have nothing in common, and the same calls have the same answers. */
    private static void twoHouses() {
        Kit first = somethingEverywhere();
        Kit second = new Kit();
        due("1: patch", second.patch(15, Kit.n(0, 9)), 0);
        Kit third = somethingEverywhere();
        due("1: the same calls, the same answers", Arrays.equals(first.state(), third.state()) ? 1 : 0, 1);
        long[] before = first.state();
        due("1: full", third.does(0, 9, Kit.n(0, GREATEST), Kit.b(12, 0, 1, 0)), 3);
        third.house.feed(1, 1, 1, 1, 1);
        third.house.save(0);
        first.stays("1: what another object does", before);
        due("1: its PATCH is its own", second.house.run(15, 1), 0);
        due("1: its NUMBERS are its own", second.number(0), 9);
        due("1: nothing MADE", second.house.look(3), 0);
    }

    // 'An object is used for at most 512 calls after it has been made'.

    private static void fiveHundredAndTwelveCalls() {
        Kit kit = new Kit();
        kit.patch(0, Kit.b(3, 1, 0, 0), Kit.n(0, 1));
        int done = 0;
        while (kit.house.calls() < 504) {
            due("512: run", kit.house.run(0, 2), 0);
            done++;
        }
        due("512: the 505th", kit.house.number(1), done - 1);
        due("512: the 506th", kit.house.look(2), 0);
        due("512: the 507th", kit.house.feed(0x10000000, 0x05000000, 0, 0, 0), 20);
        due("512: the 508th", kit.house.load(3), 0);
        due("512: the 509th", kit.house.save(3), 5);
        due("512: the 510th", kit.house.out(4), 5);
        due("512: the 511th", kit.house.run(0, 1), 2);
        due("512: the 512th", kit.number(1), done);
        due("512: so many", kit.house.calls(), 512);
    }

    public static void main(String[] args) {
        aNewObject();
        twentyBytesEach();
        feedBeyond2000();
        feedAroundTheEnd();
        endOfTheTape();
        loadOfNoSuchSlot();
        loadTakesTheTape();
        loadThatFails();
        loadThatIsFull();
        saveAroundItsLimit();
        saveOfNoSuchSlot();
        bytesOfOut();
        runOfOtherNumbers();
        answersOfRun();
        runThatIsFullAhead();
        lookAtOthers();
        lookAtTheLatestRun();
        lookAtTheRest();
        numbersAndReals();
        slotOfEachKind();
        memberOfEachKind();
        memberAtItsBounds();
        sameOnes();
        callsLeaveTheRest();
        whatWasTakenFromTheTape();
        thoseOfTheHouse();
        twoHouses();
        fiveHundredAndTwelveCalls();
        Kit.finish();
    }
}
