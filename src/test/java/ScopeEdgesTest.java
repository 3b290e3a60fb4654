/** The sentences of PART 2 on parts, PATCHES in one another, SCOPES, FUEL and DEEP. */
public final class ScopeEdgesTest extends Checks {
    // An OP (or some) for each kind of FAULT, with things(): the FUEL that it takes stands in FUEL_OF.
    private static final int[][] FAULTS = {
        NO_BYTES, {34, 14}, {19, 4, 0, 0, 6}, {12, 14, 4, 6}, {17, 1, 2}, {26, 3, 0, 2}, {3, 1, 0, 3}, {34, 4}, {33, 9},
    };
    private static final int[] FUEL_OF = {0, 1, 1, 1, 1, 1, 1, 1, 12};

    /**
     * N 5 is 5, N 6 is -1; S 0 and S 15 INTS, S 1 a GRID, each of 9 members, S 2 a PART, S 3 a BOX of BOLTS of 9
     * members, S 4 a TROUBLE of 77, S 8 BYTES of 1 member; PATCH 9 is in itself.
     */
    private static Kit things() {
        Kit kit = new Kit();
        due("things", kit.does(0, 500, Kit.n(1, 9), Kit.b(12, 0, 4, 1), Kit.b(12, 15, 4, 1), Kit.b(13, 1, 1, 7),
            Kit.b(15, 2, 0), Kit.b(14, 3, 1, 1), Kit.n(1, 77), Kit.b(16, 4, 1), Kit.n(1, 1), Kit.b(12, 8, 1, 1),
            Kit.n(1, 0), Kit.n(5, 5), Kit.n(6, -1)), 0);
        kit.patch(9, Kit.b(33, 9));
        return kit;
    }

    /** N n is one more; N 7 is used. */
    private static int[] more(int n) {
        return Kit.join(Kit.n(7, 1), Kit.b(3, n, 7, 0));
    }

    // Parts.

    /** "the a bytes behind, if N n is not 0, else the b bytes behind these" */
    private static void choices() {
        for (int n : new int[] {0, 1, -1, LEAST, GREATEST}) {
            Kit kit = things();
            kit.run("30", 0, 0, 4, Kit.n(3, n), Kit.choice(3, Kit.n(1, 11), Kit.n(1, 22)), Kit.n(2, 33));
            due("30 with " + n, kit.number(1), n != 0 ? 11 : 22);
            due("then what is behind", kit.number(2), 33);
            kit.run("30 without a", 0, 0, n == 0 ? 3 : 2, Kit.choice(3, NO_BYTES, Kit.n(1, 44)), Kit.n(2, 3));
            due("30 without a", kit.number(1), n != 0 ? 11 : 44);
            kit.run("30 without b", 0, 0, n == 0 ? 2 : 3, Kit.choice(3, Kit.n(1, 55), NO_BYTES), Kit.n(2, 3));
            due("30 without b", kit.number(1), n != 0 ? 55 : 44);
            kit.run("30 without both", 0, 0, 1, Kit.choice(3, NO_BYTES, NO_BYTES));
        }
        Kit kit = new Kit();
        kit.run("N n is looked at once", 0, 0, 1 + 1 + 2, Kit.n(3, 1), Kit.choice(3, Kit.n(3, 0), Kit.n(1, 9)), Kit.n(2, 1));
        due("no b behind a", kit.number(1), 0);
    }

    /** "as long as N n is not 0 the a bytes behind, again and again", "each further round of 31 1" */
    private static void rounds() {
        for (int times = 0; times <= 4; times++) {
            Kit kit = new Kit();
            kit.run("31", 0, 0, 1 + 1 + 1 + 2 * times + Math.max(0, times - 1) + 1, Kit.n(3, times), Kit.n(1, 1),
                Kit.rounds(3, Kit.join(Kit.b(3, 3, 1, 1), Kit.b(3, 2, 1, 0))), Kit.b(2, 4, 2));
            due("so many rounds", kit.number(2), times);
            due("then what is behind", kit.number(4), times);
        }
        for (int n : new int[] {1, -1, LEAST, GREATEST}) {
            Kit kit = new Kit();
            kit.run("31", 0, 0, 2 + 2, Kit.n(3, n), Kit.rounds(3, Kit.join(Kit.n(2, 9), Kit.n(3, 0))));
            due("not 0: " + n, kit.number(2), 9);
        }
        Kit kit = new Kit();
        kit.run("N n is looked at ahead of a round alone", 0, 0, 3 + 1 + 3 * 2 + 1, Kit.n(1, 1), Kit.n(3, 1), Kit.n(4, 2),
            Kit.rounds(3, Kit.join(Kit.n(3, 0), Kit.b(3, 4, 1, 1), Kit.b(2, 3, 4))));
        due("two whole rounds", kit.number(4), 0);
    }

    /** "Where there is too little the run ends": rounds without an end, of no bytes too. */
    private static void roundsWithoutAnEnd() {
        for (int fuel : new int[] {2, 3, 4, 5, 6, 20000}) {
            Kit kit = new Kit();
            due("31 of no bytes", kit.does(0, fuel, Kit.n(3, 1), Kit.rounds(3, NO_BYTES), Kit.n(1, 1)), 2);
            due("none is left", kit.house.look(2), 0);
            due("31 of an OP", kit.does(0, fuel, Kit.n(3, 1), Kit.n(2, 0), Kit.n(1, 1), Kit.rounds(3, Kit.b(3, 2, 1, 0))), 2);
            // The first round takes 1 for its OP, each further one 2.
            due("so often with " + fuel, kit.number(2), Math.max(0, (fuel - 3) / 2));
            due("none is left", kit.house.look(2), 0);
            due("the next run is as ever", kit.does(0, 1, Kit.n(3, 0)), 0);
        }
    }

    /** "33 h: PATCH h (0 to 15)." */
    private static void patchesInOneAnother() {
        Kit kit = new Kit();
        int[] all = NO_BYTES;
        for (int p = 1; p < 16; p++) {
            kit.patch(p, more(3));
            all = Kit.join(all, Kit.b(33, p));
        }
        due("all PATCHES", kit.does(0, 200, all, Kit.n(1, 8)), 0);
        due("each was done", kit.number(3), 15);
        due("FUEL", 200 - kit.house.look(2), 3 * 15 + 1);
        due("then what is behind", kit.number(1), 8);
        kit.patch(5);
        kit.run("an empty PATCH", 0, 0, 1, Kit.b(33, 5));
        kit.patch(6, Kit.b(34, 9), Kit.n(2, 2));
        kit.patch(7, Kit.b(33, 6), Kit.n(2, 2));
        kit.run("a FAULT goes out of the PATCH", 1, EMPTY, 3, Kit.b(33, 7), Kit.n(2, 2));
        due("nothing behind it", kit.number(2), 0);
        kit.run("to where that was begun", 0, 0, 1 + 3 + 1 + 1, Kit.scope(1, 0, Kit.b(33, 7), Kit.n(2, 3), NO_BYTES), Kit.n(1, 1));
        due("the HANDLER", kit.number(2), 3);
    }

    // DEEP.

    /** "a 13th PATCH in one another would begin" */
    private static void thirteenPatches() {
        for (int deep = 11; deep <= 14; deep++) {
            Kit kit = new Kit();
            for (int p = 0; p < deep; p++) {
                due("patch", kit.patch(p, more(3), p + 1 < deep ? Kit.b(33, p + 1) : NO_BYTES, Kit.b(3, 2, 7, 0)), 0);
            }
            int made = kit.house.look(3);
            due(deep + " PATCHES", kit.house.run(0, 100), deep <= 12 ? 0 : 1);
            due(deep + ": kind", kit.house.look(0), deep <= 12 ? 0 : DEEP);
            due(deep + ": begun", kit.number(3), Math.min(deep, 12));
            due(deep + ": done to their ends", kit.number(2), deep <= 12 ? deep : 0);
            due(deep + ": FUEL", 100 - kit.house.look(2), deep <= 12 ? 4 * deep - 1 : 3 * 12);
            due(deep + ": MADE", kit.house.look(3) - made, deep <= 12 ? 0 : 8);
            if (deep == 13) {
                due("not so deep from the second on", kit.house.run(1, 100), 0);
                due("FUEL comes ahead of DEEP", kit.house.run(0, 35), 2);
                due("just FUEL", kit.house.run(0, 36), 1);
            }
        }
        // What has been done ahead of a PATCH, or is round it, does not count.
        int[][] ahead = {
            Kit.choice(7, NO_BYTES, NO_BYTES), Kit.choice(7, Kit.b(11, 0), Kit.b(11, 0)), Kit.rounds(7, Kit.n(7, 0)),
            Kit.scope(255, 0, Kit.b(34, 9), NO_BYTES, NO_BYTES), Kit.b(33, 15),
        };
        for (int[] done : ahead) {
            Kit kit = new Kit();
            kit.patch(0, more(3), done, Kit.b(33, 0));
            due("a PATCH in itself", kit.house.run(0, 500), 1);
            due("its kind", kit.house.look(0), DEEP);
            due("12 of them", kit.number(3), 12);
            kit.patch(0, more(3), Kit.choice(7, Kit.b(33, 0), NO_BYTES));
            due("a PATCH in itself, within a choice", kit.house.run(0, 500), 1);
            due("12 more", kit.number(3), 24);
        }
        // One behind another they are not in one another.
        Kit kit = new Kit();
        kit.patch(1, Kit.b(3, 2, 1, 0));
        kit.run("30 behind one another", 0, 0, 61, Kit.n(1, 1), Kit.times(30, 33, 1));
        due("30 of them", kit.number(2), 30);
    }

    /** What parts a PATCH is begun in does not count, and a FAULT ends those that it goes out of. */
    private static void deepInParts() {
        Kit kit = new Kit();
        kit.patch(1, Kit.scope(128, 0, Kit.b(33, 1), more(3), more(2)));
        due("in SCOPES", kit.house.run(1, 200), 0);
        // The 12th takes the FAULT, so that the others have none.
        due("one HANDLER", kit.number(3), 1);
        due("every ALWAYS", kit.number(2), 12);
        due("it can be done again", kit.house.run(1, 200), 0);
        due("every ALWAYS", kit.number(2), 24);
        kit.patch(2, Kit.scope(127, 0, Kit.b(33, 2), NO_BYTES, more(2)));
        kit.run("out of all 12", 0, 0, 1 + 1 + 2 * 11 + 2 * 11 + 2 + 1, Kit.scope(255, 0, Kit.b(33, 2), more(3), NO_BYTES),
            Kit.b(2, 1, 2));
        due("one HANDLER", kit.number(3), 3);
        due("each ALWAYS that was begun", kit.number(2), 24 + 11);
        kit.run("then there is room for 12 again", 0, 0, 1 + 11 * 2 + 2 + 11 * 2, Kit.b(33, 1));
    }

    /** Twelve PATCHES with ten SCOPES each, all in one another: what each SAVES is put back by the one that takes the FAULT. */
    private static void asDeepAsCanBe() {
        for (int taker : new int[] {0, 1, 5, 9, 10, 64, 110, 118, 119}) {
            Kit kit = new Kit();
            for (int p = 0; p < 12; p++) {
                // Each BODY counts in N 3, and puts that into the ROW S 13 ahead of what is within.
                int[] bytes = Kit.b(33, p + 1);
                for (int level = 9; level >= 0; level--) {
                    int[] count = Kit.join(Kit.b(3, 3, 1, 0), Kit.b(20, 4, 13, 0, 3));
                    bytes = Kit.scope(10 * p + level == taker ? 128 : 127, 1 << 13 | 1 << 2, Kit.join(count, bytes), NO_BYTES, NO_BYTES);
                }
                due("patch", kit.patch(p, bytes), 0);
            }
            due("a ROW", kit.does(13, 9, Kit.n(1, 1), Kit.b(12, 13, 4, 1), Kit.b(16, 2, 1)), 0);
            int made = kit.house.look(3);
            due("taken by " + taker, kit.house.run(0, 1000), 0);
            due("all were begun", kit.number(3), 120);
            due("what it had there", kit.member(13, 0), taker);
            due("N 7", kit.number(7), DEEP);
            due("MADE", kit.house.look(3) - made, 120 * 2 + 8);
        }
    }

    /** S 1 is the outermost of so many PARTS in one another, each CASE in a BOX of one. */
    private static Kit nestedParts(int deep) {
        Kit kit = new Kit();
        int[] round = Kit.join(Kit.b(14, 2, 0, 0), Kit.b(26, 2, 4, 1), Kit.b(15, 1, 4), Kit.b(28, 3, 1, 2), Kit.b(28, 1, 1, 1),
            Kit.b(3, 3, 0, 1));
        due("nested", kit.does(0, 1000, Kit.n(0, 1), Kit.n(3, deep - 1), Kit.r(1, 1.0), Kit.b(15, 1, 0), Kit.b(28, 1, 1, 1),
            Kit.rounds(3, round)), 0);
        return kit;
    }

    /** "a 31st PART in one another is asked what it weighs (ahead of its FUEL)", "what weighs 1 for each PART as it is asked" */
    private static void thirtyOneParts() {
        for (int deep : new int[] {1, 2, 29, 30, 31, 32}) {
            int parts = Math.min(deep, 30);
            for (int h : new int[] {0, 1, 4}) {
                Kit kit = nestedParts(deep);
                if (deep == 1 && h > 0) {
                    continue;
                }
                due(deep + " PARTS", kit.does(0, 1 + parts, Kit.b(29, h, 0, 1, 7)), deep <= 30 ? 0 : 1);
                due(deep + ": kind", kit.house.look(0), deep <= 30 ? 0 : DEEP);
                due(deep + ": all FUEL is taken", kit.house.look(2), 0);
                due(deep + ": R r", kit.real(0), Double.doubleToLongBits(deep > 30 ? 0.0 : h == 0 ? deep : 1.0));
                due(deep + ": one FUEL less", kit.does(0, parts, Kit.b(29, h, 0, 1, 7)), 2);
                due(deep + ": one FUEL more", kit.does(0, 2 + parts, Kit.b(29, h, 0, 1, 7)), deep <= 30 ? 0 : 1);
                due(deep + ": it is left", kit.house.look(2), 1);
                kit.run("LABEL is not what it weighs", 0, 0, 1, Kit.b(29, 5, 0, 1, 7));
            }
        }
    }

    // SCOPES.

    /** "A FAULT of kind k in it, if bit k - 1 of h is 1" */
    private static void eachKindAndEachBit() {
        for (int kind = 1; kind <= 8; kind++) {
            for (int bit = 0; bit < 8; bit++) {
                for (int bits : new int[] {1 << bit, 255 - (1 << bit)}) {
                    boolean taken = (bits >> kind - 1 & 1) == 1;
                    Kit kit = things();
                    int made = kit.house.look(3);
                    kit.run("kind " + kind + " with " + bits, taken ? 0 : 1, taken ? 0 : kind,
                        1 + FUEL_OF[kind] + 1 + (taken ? 3 : 0), Kit.scope(bits, 0, Kit.join(FAULTS[kind], Kit.n(3, 99)),
                            Kit.join(Kit.b(2, 1, 7), Kit.b(2, 2, 6)), Kit.n(4, 44)), Kit.n(5, 55));
                    due("its number", kit.house.look(1), !taken && kind == TOLD ? 77 : 0);
                    due("nothing behind the FAULT", kit.number(3), 0);
                    due("N 7 is k", kit.number(1), taken ? kind : 0);
                    due("N 6 the number (0, if not TOLD)", kit.number(2), !taken ? 0 : kind == TOLD ? 77 : 0);
                    due("ALWAYS", kit.number(4), 44);
                    due("what is behind, if it was taken", kit.number(5), taken ? 55 : 5);
                    due("N 7 is k", kit.number(7), taken ? kind : 0);
                    due("N 6 stays, if it was not taken", kit.number(6), !taken ? -1 : kind == TOLD ? 77 : 0);
                    due("one FAULT", kit.house.look(3) - made, 8);
                }
            }
        }
    }

    /** "0 to 255": with no bit no FAULT is taken, with all bits every one. */
    private static void noBitAndAllBits() {
        for (int kind = 1; kind <= 8; kind++) {
            Kit kit = things();
            kit.run("no bit", 1, kind, 1 + FUEL_OF[kind], Kit.scope(0, 0, FAULTS[kind], Kit.n(3, 3), NO_BYTES), Kit.n(4, 4));
            due("no HANDLER, nothing behind", kit.number(3) + kit.number(4), 0);
            kit.run("all bits", 0, 0, 1 + FUEL_OF[kind] + 2, Kit.scope(255, 0, FAULTS[kind], Kit.n(3, 3), NO_BYTES), Kit.n(4, 4));
            due("the HANDLER, and what is behind", kit.number(3) + kit.number(4), 7);
        }
        Kit kit = things();
        kit.run("no FAULT", 0, 0, 4, Kit.scope(255, 0, Kit.n(3, 3), Kit.n(3, 4), Kit.n(4, 4)), Kit.n(2, 2));
        due("no HANDLER", kit.number(3), 3);
        due("ALWAYS", kit.number(4), 4);
        due("N 7, N 6 stay", kit.number(7) + kit.number(6), -1);
        kit.run("a SCOPE of no bytes", 0, 0, 1, Kit.scope(255, 0, NO_BYTES, NO_BYTES, NO_BYTES));
    }

    /** "the SLOTS whose bits are 1 in x (S0 to S7, from bit 0 on) and y (S8 to S15)" */
    private static void eachSlotsBit() {
        int[] drop = NO_BYTES;
        for (int s = 0; s < 16; s++) {
            drop = Kit.join(drop, Kit.b(11, s));
        }
        for (int bit = 0; bit <= 16; bit++) {
            int saves = bit == 16 ? 0xFFFF : 1 << bit;
            Kit kit = new Kit();
            int[] fill = NO_BYTES;
            for (int s = 0; s < 16; s++) {
                fill = Kit.join(fill, Kit.n(0, s), Kit.b(16, s, 0));
            }
            due("fill", kit.does(0, 100, fill), 0);
            int made = kit.house.look(3);
            kit.run("SAVED " + saves, 0, 0, 1 + 16 + 1, Kit.scope(1, saves, Kit.join(drop, Kit.b(34, 0)), NO_BYTES, NO_BYTES));
            for (int s = 0; s < 16; s++) {
                due("S " + s + " behind " + saves, kit.member(s, 0), (saves >> s & 1) == 1 ? s : Kit.MISSING);
            }
            due("TROUBLES have no CLONES", kit.house.look(3) - made, 8);
        }
    }

    /** "the SLOT has what it had; the members of ROW, GRID, BOX are those of the CLONE again" */
    private static void whatIsPutBack() {
        int[] bolt = Kit.join(Kit.b(12), new int[12]);
        for (int kind = 1; kind <= 10; kind++) {
            int[] head = Kit.join(Kit.b(kind), kind == 10 ? Kit.b(1) : NO_BYTES, Kit.four(2));
            int[] first = kind == 9 ? Kit.b(4, 0, 0, 0, 0, 0) : kind == 10 ? Kit.join(bolt, Kit.b(0))
                : Kit.times(2, Kit.join(new int[Model.BYTES[kind] - 1], Kit.b(1)));
            int[] other = kind == 9 ? Kit.b(0, 4, 0, 0, 0, 0) : kind == 10 ? Kit.join(Kit.b(0), bolt)
                : new int[2 * Model.BYTES[kind]];
            for (int s = 0; s < 16; s++) {
                int t = (s + 1) % 16;
                int u = (s + 2) % 16;
                Kit kit = new Kit();
                due("load", kit.load(s, head, first), 0);
                due("load", kit.load(t, head, other), 0);
                kit.does(0, 9, Kit.b(10, u, s), Kit.n(2, 2));
                int[] change = Kit.join(Kit.b(21, t, 0, s, 0, 2), Kit.b(10, s, t));
                int[] fault = Kit.b(34, (s + 3) % 16);
                kit.run("put back", 0, 0, 1 + 1 + 2 + 1 + 1, Kit.scope(1, 1 << s, Kit.join(change, fault), NO_BYTES, NO_BYTES));
                due("the SLOT has what it had", kit.house.same(s, u), 1);
                kit.saved("the members of kind " + kind, s, head, first);
                kit.saved("others stay", t, head, other);
                kit.run("no FAULT", 0, 0, 1 + 1 + 2 + 1, Kit.scope(1, 1 << s, change, NO_BYTES, NO_BYTES));
                due("nothing is put back", kit.house.same(s, t), 1);
                kit.saved("nothing is put back", u, head, other);
            }
        }
        // NOTHING is SAVED, too; and a thing that only a SLOT had is there again.
        Kit kit = things();
        kit.run("NOTHING", 0, 0, 1 + 2 + 1 + 1, Kit.scope(1, 1 << 9 | 1 << 8, Kit.join(Kit.b(15, 9, 0), Kit.b(11, 8), Kit.b(34, 8)),
            NO_BYTES, NO_BYTES));
        due("NOTHING again", kit.house.slot(9, 0), 0);
        due("the only one again", kit.house.slot(8, 0), 1);
    }

    /** "Other FAULTS, and those of the HANDLER, go on outwards." Then nothing is put back by that SCOPE. */
    private static void notPutBack() {
        Kit kit = things();
        int[] change = Kit.join(Kit.b(20, 4, 0, 0, 5), Kit.b(11, 15));
        kit.run("another FAULT", 1, KIND, 1 + 4 + 2 + 1, Kit.scope(255 - 8, 0x8001, Kit.join(change, FAULTS[KIND]), NO_BYTES, NO_BYTES));
        due("the member stays", kit.member(0, 0), 5);
        due("the SLOT stays", kit.house.slot(15, 0), 0);
        kit = things();
        int[] again = Kit.join(Kit.b(20, 4, 0, 5, 5), FAULTS[TOLD]);
        kit.run("a FAULT of the HANDLER", 1, TOLD, 1 + 2 + 2 + 3, Kit.scope(255, 1,
            Kit.join(Kit.b(20, 4, 0, 0, 5), FAULTS[KIND]), Kit.join(Kit.n(7, 0), again), NO_BYTES));
        due("put back ahead of the HANDLER", kit.member(0, 0), 0);
        due("what the HANDLER did stays", kit.member(0, 5), 5);
        due("its number", kit.house.look(1), 77);
        kit = things();
        int[] inner = Kit.scope(8, 0, FAULTS[KIND], again, Kit.n(3, 3));
        kit.run("to the outer one", 0, 0, 1 + 2 + 1 + 1 + 1 + 1 + 1 + 1, Kit.scope(64, 1, inner, Kit.b(2, 4, 6), NO_BYTES));
        due("the outer one puts back", kit.member(0, 5), 0);
        due("ALWAYS of the inner one", kit.number(3), 3);
        due("the number for the outer HANDLER", kit.number(4), 77);
    }

    /** "In any case the c bytes, ALWAYS, are done at last; a FAULT of these goes on in place of another one." */
    private static void always() {
        for (int body = 0; body <= 8; body++) {
            for (int handler = 0; handler <= 8; handler++) {
                for (int last = 0; last <= 8; last++) {
                    alwaysBehind(body, handler, last);
                }
            }
        }
    }

    private static void alwaysBehind(int body, int handler, int last) {
        for (int bits : new int[] {0, 255}) {
            Kit kit = things();
            boolean taken = bits == 255 && body > 0;
            int goesOn = last > 0 ? last : taken ? handler : body;
            // The HANDLER makes N 6 -1 again, as FAULTS[] wants it.
            int[] third = Kit.join(Kit.n(6, -1), Kit.n(3, 3), FAULTS[last]);
            int[] second = Kit.join(Kit.n(6, -1), Kit.n(2, 2), FAULTS[handler]);
            int fuel = 1 + FUEL_OF[body] + (taken ? 2 + FUEL_OF[handler] : 0) + 2 + FUEL_OF[last];
            String what = body + ", " + handler + ", " + last + " with " + bits;
            int made = kit.house.look(3);
            kit.run(what, goesOn > 0 ? 1 : 0, goesOn, fuel, Kit.scope(bits, 0, FAULTS[body], second, third));
            due(what + ": number", kit.house.look(1), goesOn == TOLD ? 77 : 0);
            due(what + ": HANDLER", kit.number(2), taken ? 2 : 0);
            due(what + ": ALWAYS", kit.number(3), 3);
            int faults = (body > 0 ? 1 : 0) + (taken && handler > 0 ? 1 : 0) + (last > 0 ? 1 : 0);
            due(what + ": MADE", kit.house.look(3) - made, 8 * faults);
        }
    }

    /** "which goes out through nested scopes": ten in one another, the FAULT taken by one of them. */
    private static void tenScopes() {
        for (int taker = 0; taker <= 10; taker++) {
            int[] bytes = FAULTS[TOLD];
            for (int i = 9; i >= 0; i--) {
                bytes = Kit.scope(i == taker ? 64 : 0, 0, bytes, i == taker ? Kit.b(3, 2, 5, 0) : NO_BYTES, Kit.b(3, 3, 5, 0));
            }
            Kit kit = things();
            kit.run("taken by " + taker, taker == 10 ? 1 : 0, taker == 10 ? TOLD : 0, 10 + 1 + 10 + (taker == 10 ? 0 : 1), bytes);
            due("every ALWAYS", kit.number(3), 50);
            due("one HANDLER", kit.number(2), taker == 10 ? 0 : 5);
            due("its number", kit.number(6), taker == 10 ? -1 : 77);
        }
    }

    /** A FAULT in rounds ends these. */
    private static void faultInRounds() {
        Kit kit = things();
        int[] body = Kit.join(Kit.b(3, 1, 5, 0), FAULTS[TOLD]);
        kit.run("out of rounds", 0, 0, 1 + 1 + 2 + 1, Kit.scope(64, 0, Kit.rounds(5, body), Kit.b(2, 2, 1), NO_BYTES));
        due("one round", kit.number(2), 5);
        kit.run("out of a choice", 0, 0, 1 + 1 + 2 + 1, Kit.scope(64, 0, Kit.choice(5, body, NO_BYTES), Kit.b(2, 2, 1), NO_BYTES));
        due("once more", kit.number(2), 10);
        kit = new Kit();
        // N 3 counts the rounds down, each of them with a FAULT that is taken within it.
        int[] round = Kit.join(Kit.n(1, 1), Kit.b(3, 3, 1, 1), Kit.scope(1, 0, Kit.b(34, 9), Kit.b(3, 4, 1, 0), Kit.b(3, 5, 1, 0)));
        kit.run("within rounds", 0, 0, 1 + 1 + 3 * 6 + 2, Kit.n(3, 3), Kit.rounds(3, round));
        due("each HANDLER", kit.number(4), 3);
        due("each ALWAYS", kit.number(5), 3);
    }

    // FUEL.

    /** "each OP takes 1 as it begins" */
    private static void eachOpTakesOne() {
        // With allKinds(): N 0 is 0, so that those which make or copy have no members.
        int[][] ops = {
            {1, 5, 0, 0, 0, 9}, {2, 5, 1}, {3, 5, 1, 2}, {4, 2, 64, 0, 0, 0, 0, 0, 0, 0}, {5, 2, 4}, {6, 5, 3}, {7, 3, 3, 0},
            {8, 3, 8}, {9, 5, 0, 0, 4}, {10, 1, 2}, {11, 1}, {12, 1, 2, 0}, {13, 1, 0, 3}, {14, 1, 2, 0}, {15, 1, 3}, {16, 1, 4},
            {17, 5, 9}, {18, 5, 1, 1}, {19, 4, 5, 4, 1}, {20, 4, 4, 1, 5}, {21, 4, 1, 4, 2, 0}, {23, 1, 9, 1}, {24, 9, 1, 4},
            {25, 1, 10, 1}, {26, 10, 1, 13}, {27, 0, 5, 11}, {28, 0, 11, 5}, {29, 5, 3, 13, 0}, {30, 0, 0, 0}, {31, 0, 0},
            {32, 255, 0, 0, 0, 0, 0}, {33, 7}, {34, 0},
        };
        for (int[] op : ops) {
            Kit kit = allKinds();
            kit.patch(0, op);
            kit.patch(1, Kit.n(7, 22), op);
            kit.house.run(9, 0);
            long[] before = kit.state();
            due("OP " + op[0] + " without FUEL", kit.house.run(0, 0), 2);
            kit.stays("OP " + op[0] + " without FUEL", before);
            due("OP " + op[0] + " behind another, FUEL for that", kit.house.run(1, 1), 2);
            due("OP " + op[0] + " behind another, which was done", kit.number(7), 22);
            due("OP " + op[0] + " with 1", kit.house.run(0, 1), op[0] == 34 ? 1 : 0);
            due("OP " + op[0] + " with 1: none is left", kit.house.look(2), 0);
            kit = allKinds();
            due("OP " + op[0] + " with 20000", kit.does(0, 20000, op), op[0] == 34 ? 1 : 0);
            due("OP " + op[0] + " with 20000: what is left", kit.house.look(2), 19999);
        }
    }

    /** "1 more for each 8 members begun that they made, copied or have", "behind what they did" */
    private static void fuelForMembers() {
        for (int size : new int[] {0, 1, 7, 8, 9, 15, 16, 17, 64, 65}) {
            int more = size / 8 + (size % 8 == 0 ? 0 : 1);
            int[] set = Kit.n(3, size);
            takes("12 of " + size, 1 + more, size, set, Kit.b(12, 9, 5, 3));
            takes("14 of " + size, 1 + more, size, set, Kit.b(14, 9, 2, 3));
            takes("22 of a ROW of " + size, 1 + more, size, Kit.join(set, Kit.b(12, 10, 5, 3)), Kit.b(22, 9, 10));
            takes("22 of a BOX of " + size, 1 + more, size, Kit.join(set, Kit.b(14, 10, 2, 3)), Kit.b(22, 9, 10));
            takes("22 of a GRID of " + size, 1 + more, size, Kit.join(set, Kit.b(13, 10, 3, 7)), Kit.b(22, 9, 10));
            takes("13 of " + size + " empty ROWS", 1 + more, size, set, Kit.b(13, 9, 3, 7));
            takes("a SCOPE with a ROW of " + size, 1 + more, -1, Kit.join(set, Kit.b(12, 10, 5, 3)),
                Kit.scope(0, 1 << 10, NO_BYTES, NO_BYTES, NO_BYTES));
            takes("21 of " + size, 1 + more, size, Kit.join(Kit.n(4, 70), Kit.b(12, 10, 5, 4), set, Kit.b(12, 9, 5, 3)),
                Kit.b(21, 10, 7, 9, 7, 3));
        }
        // Of 13 N n times N m and N n: 2 * 3 + 2 are 8, 3 * 2 + 3 are 9.
        takes("13 of 2 and 3", 1 + 1, 2, Kit.join(Kit.n(3, 2), Kit.n(4, 3)), Kit.b(13, 9, 3, 4));
        takes("13 of 3 and 2", 1 + 2, 3, Kit.join(Kit.n(3, 3), Kit.n(4, 2)), Kit.b(13, 9, 3, 4));
        takes("13 of 1 and 7", 1 + 1, 1, Kit.join(Kit.n(3, 1), Kit.n(4, 7)), Kit.b(13, 9, 3, 4));
        takes("13 of 1 and 8", 1 + 2, 1, Kit.join(Kit.n(3, 1), Kit.n(4, 8)), Kit.b(13, 9, 3, 4));
        takes("13 of 0 and 900", 1, 0, Kit.join(Kit.n(3, 0), Kit.n(4, 900)), Kit.b(13, 9, 3, 4));
        takes("21 counts what it copies, not what is there", 1, 20, Kit.join(Kit.n(3, 20), Kit.b(12, 9, 5, 3)),
            Kit.b(21, 9, 7, 9, 7, 7));
    }

    /** An OP with so much FUEL, with less, with none; S 9 has that many members when it has been done. */
    private static void takes(String what, int fuel, int members, int[] ahead, int[] op) {
        for (int given = 0; given <= fuel + 1; given++) {
            Kit kit = new Kit();
            due("ahead", kit.does(0, 1000, ahead), 0);
            int made = kit.house.look(3);
            due(what + " with " + given, kit.does(0, given, op, Kit.n(1, 11)), given > fuel ? 0 : 2);
            due(what + ": what is left of " + given, kit.house.look(2), 0);
            due(what + ": what is behind, with " + given, kit.number(1), given > fuel ? 11 : 0);
            if (members >= 0 && op[0] != 21) {
                due(what + ": what was done stays, with " + given, kit.house.slot(9, 1), given == 0 ? -1 : members);
            }
            if (given == 0 || op[0] == 21) {
                due(what + ": MADE with " + given, kit.house.look(3), made);
            }
            due(what + ": no FAULT", kit.house.look(0), 0);
        }
    }

    /** "none with a FAULT" */
    private static void noFuelForAFault() {
        Kit kit = new Kit();
        int[] parts = Kit.times(20, Kit.join(Kit.b(11), new int[12]));
        kit.load(1, Kit.b(10, 0), Kit.four(20), Kit.times(19, Kit.b(0)), Kit.b(11), new int[12]);
        kit.load(2, Kit.b(10, 3), Kit.four(20), Kit.times(20, Kit.b(0)));
        due("load", kit.load(3, Kit.b(10, 0), Kit.four(20), parts), 0);
        kit.run("21 up to the last", 1, MEMBER, 2, Kit.n(1, 20), Kit.b(21, 1, 0, 2, 0, 1));
        kit.run("21 at once", 1, MEMBER, 2, Kit.n(1, 20), Kit.b(21, 3, 0, 2, 0, 1));
        kit.run("21 of one too many", 1, BOUNDS, 2, Kit.n(1, 21), Kit.b(21, 3, 0, 2, 0, 1));
        kit.run("21 of one less", 0, 0, 2 + 3, Kit.n(1, 19), Kit.b(21, 1, 0, 2, 0, 1));
        kit.run("12", 1, NEGATIVE, 2, Kit.n(1, -9), Kit.b(12, 5, 1, 1));
        kit.run("13", 1, NEGATIVE, 3, Kit.n(1, -9), Kit.n(2, 99), Kit.b(13, 5, 2, 1));
        kit.run("22", 1, EMPTY, 1, Kit.b(22, 5, 6));
    }

    /** "a SCOPE likewise for each CLONE that it SAVES" */
    private static void fuelOfAScope() {
        // S 0, S 1, S 3, S 15 of 9 members, 2 each; S 8 of one, 1; PARTS, TROUBLES, NOTHING none.
        int[][] saves = {{0, 0}, {1, 2}, {2, 2}, {8, 2}, {0x8000, 2}, {0x100, 1}, {3, 4}, {4, 0}, {16, 0}, {32, 0}, {0xFFFF, 9}};
        for (int[] save : saves) {
            Kit kit = things();
            kit.run("a SCOPE that SAVES " + save[0], 0, 0, 1 + save[1], Kit.scope(0, save[0], NO_BYTES, NO_BYTES, NO_BYTES));
            for (int given = 0; given <= save[1] + 1; given++) {
                kit = things();
                due("a SCOPE with " + given, kit.does(0, given, Kit.scope(1, save[0], Kit.n(3, 3), NO_BYTES, Kit.n(4, 4))), 2);
                due("no BODY, no ALWAYS", kit.number(3) + kit.number(4), 0);
                due("none is left", kit.house.look(2), 0);
            }
        }
        // By number: S 0 (MADE 10, FUEL 2) ahead of S 8 (MADE 2, FUEL 1) ahead of S 15 (as S 0).
        int[] wantMade = {0, 10, 10, 12, 22, 22, 22};
        for (int given = 0; given <= 6; given++) {
            Kit kit = things();
            int had = kit.house.look(3);
            due("by number", kit.does(0, given, Kit.scope(0, 0x8101, NO_BYTES, NO_BYTES, NO_BYTES)), given == 6 ? 0 : 2);
            due("by number, with " + given, kit.house.look(3) - had, wantMade[given]);
        }
        // The same ROW in two SLOTS has two CLONES.
        Kit kit = things();
        int made = kit.house.look(3);
        kit.run("the same one twice", 0, 0, 1 + 1 + 4, Kit.b(10, 1, 0), Kit.scope(0, 3, NO_BYTES, NO_BYTES, NO_BYTES));
        due("MADE", kit.house.look(3) - made, 20);
    }

    /** "Where there is too little the run ends (none is left, what was done stays): nothing more is done, no ALWAYS, ..." */
    private static void noFuelInAScope() {
        int[] body = Kit.join(Kit.b(20, 4, 0, 0, 5), Kit.b(11, 15), FAULTS[TOLD]);
        int[] handler = Kit.join(Kit.n(1, 11), Kit.n(2, 22));
        int[] always = Kit.join(Kit.n(3, 33), Kit.n(4, 44));
        for (int given = 0; given <= 14; given++) {
            Kit kit = things();
            int made = kit.house.look(3);
            // 1 and 4 for two CLONES, then 3 of the BODY, 2 of the HANDLER, 2 of ALWAYS, 1 behind.
            due("with " + given, kit.does(0, given, Kit.scope(64, 0x8001, body, handler, always), Kit.n(5, 66)), given >= 13 ? 0 : 2);
            due("what is left of " + given, kit.house.look(2), Math.max(0, given - 13));
            due("the member with " + given, kit.member(0, 0), given >= 6 && given <= 7 ? 5 : 0);
            due("the SLOT with " + given, kit.house.slot(15, 0), given == 7 ? 0 : 4);
            due("N 7 with " + given, kit.number(7), given >= 8 ? TOLD : 0);
            due("N 6 with " + given, kit.number(6), given >= 8 ? 77 : -1);
            int[] want = {0, given >= 9 ? 11 : 0, given >= 10 ? 22 : 0, given >= 11 ? 33 : 0, given >= 12 ? 44 : 0, given >= 13 ? 66 : 5};
            for (int n = 1; n <= 5; n++) {
                due("N " + n + " with " + given, kit.number(n), want[n]);
            }
            due("no FAULT ended it", kit.house.look(0), 0);
            // Each CLONE is MADE ahead of its FUEL.
            int clones = given == 0 ? 0 : given < 3 ? 1 : 2;
            due("MADE with " + given, kit.house.look(3) - made, 10 * clones + (given >= 8 ? 8 : 0));
        }
    }

    /** "so with FULL" */
    private static void fullInAScope() {
        int[] body = Kit.join(Kit.b(20, 4, 0, 0, 5), Kit.b(11, 15));
        int[] full = Kit.join(Kit.n(1, 50000), Kit.b(12, 9, 4, 1));
        int[][] places = {Kit.join(body, full), Kit.join(body, FAULTS[TOLD])};
        for (int where = 0; where < 4; where++) {
            Kit kit = things();
            int[] first = where == 0 ? places[0] : places[1];
            int[] handler = Kit.join(Kit.n(2, 22), where == 1 ? full : NO_BYTES);
            int[] always = Kit.join(Kit.n(3, 33), where == 2 ? full : NO_BYTES);
            due("FULL in part " + where, kit.does(0, 900, Kit.scope(64, 0x8001, first, handler, always), Kit.n(4, 44)),
                where == 3 ? 0 : 3);
            due("the member", kit.member(0, 0), where == 0 ? 5 : 0);
            due("the SLOT", kit.house.slot(15, 0), where == 0 ? 0 : 4);
            due("the HANDLER", kit.number(2), where == 0 ? 0 : 22);
            due("no ALWAYS", kit.number(3), where <= 1 ? 0 : 33);
            due("nothing behind", kit.number(4), where == 3 ? 44 : 0);
            due("no FAULT", kit.house.look(0), 0);
            due("FUEL that is left", 900 - kit.house.look(2), new int[] {9, 11, 12, 11}[where]);
            due("nothing was made", kit.house.slot(9, 0), 0);
        }
        // FULL takes the place of a FAULT that would go on behind ALWAYS.
        Kit kit = things();
        due("FULL in ALWAYS", kit.does(0, 900, Kit.scope(0, 0, FAULTS[TOLD], NO_BYTES, full)), 3);
        due("no FAULT", kit.house.look(0) + kit.house.look(1), 0);
        kit = things();
        due("FUEL in ALWAYS", kit.does(0, 2, Kit.scope(0, 0, FAULTS[TOLD], NO_BYTES, full)), 2);
        due("no FAULT", kit.house.look(0) + kit.house.look(1), 0);
    }

    /** What a run that ended early left open is none of the next one's. */
    private static void afterARunThatEndedEarly() {
        Kit kit = things();
        int[] deep = Kit.scope(0, 0, Kit.b(33, 9), NO_BYTES, Kit.n(3, 3));
        due("FUEL ends within 11 PATCHES", kit.does(1, 11, deep, Kit.n(4, 44)), 2);
        due("no ALWAYS", kit.number(3), 0);
        kit.run("the next one can go as deep", 1, DEEP, 12, Kit.b(33, 9));
        due("no ALWAYS of the other one", kit.number(3), 0);
        due("nothing of the other one", kit.number(4), 0);
        due("FUEL ends again", kit.does(1, 11, deep, Kit.n(4, 44)), 2);
        kit.run("a FAULT goes out of this one alone", 1, TOLD, 1, FAULTS[TOLD]);
        due("no ALWAYS of the other one", kit.number(3), 0);
        due("FUEL ends again", kit.does(1, 11, deep, Kit.n(4, 44)), 2);
        kit.run("one that is done", 0, 0, 1, Kit.n(2, 2));
        due("nothing of the other one", kit.number(3) + kit.number(4), 0);
    }

    public static void main(String[] args) {
        choices();
        rounds();
        roundsWithoutAnEnd();
        patchesInOneAnother();
        thirteenPatches();
        deepInParts();
        asDeepAsCanBe();
        thirtyOneParts();
        eachKindAndEachBit();
        noBitAndAllBits();
        eachSlotsBit();
        whatIsPutBack();
        notPutBack();
        always();
        tenScopes();
        faultInRounds();
        eachOpTakesOne();
        fuelForMembers();
        noFuelForAFault();
        fuelOfAScope();
        noFuelInAScope();
        fullInAScope();
        afterARunThatEndedEarly();
        Kit.finish();
    }
}
