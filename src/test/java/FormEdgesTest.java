import java.util.Arrays;

/** The sentences of PART 4, THE FORM: READ by load(), WRITTEN by save(). */
public final class FormEdgesTest extends Checks {
    // What is MADE of a TROUBLE that S 0 has ahead, and of a FAULT.
    private static final int AHEAD = 4;
    private static final int FAULT = 8;

    /** Loads the bytes: the answer, and what is MADE of them (with the FAULT, if there is one). */
    private static void loads(String what, int answer, int made, int[]... form) {
        Kit kit = new Kit();
        kit.load(0, Kit.b(16), Kit.four(9));
        due(what, kit.load(0, form), answer);
        due(what + ": MADE", kit.house.look(3) - AHEAD, made + (answer == 0 ? 0 : FAULT));
        due(what + ": the TAPE", kit.house.look(4), 0);
        if (answer == 0) {
            due(what + ": what it is", kit.house.slot(0, 0), Kit.join(form)[0]);
        } else {
            due(what + ": S s stays", kit.house.slot(0, 0) * 10 + kit.member(0, 0), 169);
        }
    }

    private static int[] row(int width, int size) {
        return Kit.join(Kit.b(width), Kit.four(size), new int[size * Model.BYTES[width]]);
    }

    private static int[] grid(int size, int[]... members) {
        return Kit.join(Kit.b(9), Kit.four(size), Kit.join(members));
    }

    private static int[] box(int c, int size, int[]... members) {
        return Kit.join(Kit.b(10, c), Kit.four(size), Kit.join(members));
    }

    private static int[] part(int c, int[] inner) {
        return Kit.join(Kit.b(11 + c), Kit.four(3), Kit.bits(0.5), c >= 3 ? Kit.four(-4) : NO_BYTES, inner);
    }

    private static int[] trouble() {
        return Kit.b(16, 0, 0, 0, 7);
    }

    /** A form of each kind, from 0 to 16. */
    private static int[][] forms() {
        int[][] forms = new int[17][];
        forms[0] = Kit.b(0);
        for (int w = 1; w <= 8; w++) {
            forms[w] = row(w, 2);
        }
        forms[9] = grid(2, row(4, 1), Kit.b(0));
        forms[10] = box(1, 2, part(2, NO_BYTES), Kit.b(0));
        for (int c = 0; c < 5; c++) {
            forms[11 + c] = part(c, c == 4 ? box(0, 1, Kit.b(0)) : NO_BYTES);
        }
        forms[16] = trouble();
        return forms;
    }

    // What is MADE of each of these.
    private static final int[] MADE = {0, 3, 3, 3, 3, 3, 3, 3, 3, 3 + 2, 3 + 4, 4, 4, 4, 4, 4 + 2, 4};

    /** "the bytes end: BOUNDS" and "What was made stays counted." */
    private static void theBytesEnd() {
        for (int kind = 0; kind <= 16; kind++) {
            int[] form = forms()[kind];
            for (int length = 0; length < form.length; length++) {
                Kit kit = new Kit();
                due(length + " bytes of kind " + kind, kit.load(3, Arrays.copyOf(form, length)), BOUNDS);
                due("S s stays", kit.house.slot(3, 0), 0);
                int made = kit.house.look(3) - FAULT;
                // When its number has come, or at its first byte, it is made.
                int head = kind <= 9 ? 5 : kind == 10 ? 6 : 1;
                int own = kind <= 10 ? 3 : 4;
                due(length + " bytes of kind " + kind + ": MADE", Math.min(made, own), length >= head ? own : 0);
                due("not more than all of it", made <= MADE[kind] ? 1 : 0, 1);
            }
            loads("kind " + kind, 0, MADE[kind], form);
            loads("kind " + kind + " and a byte behind it", 0, MADE[kind], form, Kit.b(200));
        }
        loads("no bytes at all", BOUNDS, 0);
    }

    /** "another first byte ...: KIND" */
    private static void everyFirstByte() {
        for (int first = 0; first < 256; first++) {
            if (first <= 16) {
                loads("first byte " + first, 0, MADE[first], forms()[first]);
            } else {
                loads("first byte " + first, KIND, 0, Kit.b(first), new int[20]);
                loads("first byte " + first + " alone", KIND, 0, Kit.b(first));
                loads("first byte " + first + " in a GRID", KIND, 2, grid(1, Kit.b(first)));
                loads("first byte " + first + " in a BOX", KIND, 2, box(0, 1, Kit.b(first)));
                loads("first byte " + first + " in a CASE", KIND, 4, part(4, Kit.b(first)));
            }
        }
    }

    /** "CLASS above 4 ...: KIND" */
    private static void everyClass() {
        for (int c = 0; c < 256; c++) {
            loads("CLASS " + c, c <= 4 ? 0 : KIND, c <= 4 ? 1 : 0, Kit.b(10, c), Kit.four(0));
            loads("CLASS " + c + ", the number is not there", c <= 4 ? BOUNDS : KIND, 0, Kit.b(10, c));
            loads("CLASS " + c + ", the number is below 0", c <= 4 ? NEGATIVE : KIND, 0, Kit.b(10, c), Kit.four(-1));
        }
    }

    /** "below 0: NEGATIVE (as it comes)" */
    private static void belowZero() {
        for (int size : new int[] {-1, LEAST, 0, 1}) {
            for (int kind = 1; kind <= 10; kind++) {
                int[] head = Kit.join(kind == 10 ? Kit.b(10, 2) : Kit.b(kind), Kit.four(size));
                loads(size + " of kind " + kind, size < 0 ? NEGATIVE : 0, size < 0 ? 0 : 1 + size, head,
                    size == 1 ? new int[8] : NO_BYTES);
            }
        }
        loads("below 0 in a GRID", NEGATIVE, 3 + 1, grid(2, row(4, 0), Kit.b(4), Kit.four(-1)));
        loads("below 0 in a ROW that could not be there", NEGATIVE, 2, grid(1, Kit.b(1), Kit.four(-1)));
        loads("below 0 in an INNER", NEGATIVE, 4, part(4, Kit.join(Kit.b(10, 0), Kit.four(-1))));
        loads("below 0 in a GRID in a BOX", NEGATIVE, 2, box(0, 1, Kit.b(9), Kit.four(-1)));
    }

    /** "a value of another kind than must be there: KIND ..., when it has been read" */
    private static void otherKinds() {
        for (int kind = 0; kind <= 16; kind++) {
            int[] form = forms()[kind];
            int grid = kind == 0 || kind == 4 ? 0 : KIND;
            int box = kind == 0 || kind >= 11 && kind <= 15 ? 0 : KIND;
            int inner = kind == 0 || kind == 10 ? 0 : KIND;
            loads(kind + " in a GRID", grid, 2 + MADE[kind], grid(1, form));
            loads(kind + " in a BOX", box, 2 + MADE[kind], box(0, 1, form));
            loads(kind + " in a CASE", inner, 4 + MADE[kind], part(4, form));
            loads(kind + " in a GRID, and no more", grid == 0 ? BOUNDS : KIND, 3 + MADE[kind], grid(2, form));
            loads(kind + " in a BOX, and no more", box == 0 ? BOUNDS : KIND, 3 + MADE[kind], box(0, 2, form));
            if (kind > 0) {
                // It has not been read when its bytes end.
                int[] cut = Arrays.copyOf(form, form.length - 1);
                Kit kit = new Kit();
                due("cut short in a GRID", kit.load(0, grid(1, cut)), BOUNDS);
                due("cut short in a BOX", kit.load(0, box(0, 1, cut)), BOUNDS);
                due("cut short in a CASE", kit.load(0, part(4, cut)), BOUNDS);
            }
        }
        loads("a BOX of CASES with a TROUBLE is KIND", KIND, 2 + 4, box(4, 1, trouble()));
    }

    /** "(of a PART in a BOX whose CLASS it is not: MEMBER)" */
    private static void partsOfOtherClasses() {
        String[] below = {"01234", "12", "2", "34", "4"};
        for (int b = 0; b < 5; b++) {
            for (int c = 0; c < 5; c++) {
                int[] form = forms()[11 + c];
                int answer = below[b].indexOf('0' + c) >= 0 ? 0 : MEMBER;
                loads(c + " in a BOX of " + b, answer, 2 + MADE[11 + c], box(b, 1, form));
                loads(c + " in a BOX of " + b + " in a CASE", answer, 4 + 2 + MADE[11 + c], part(4, box(b, 1, form)));
                // MEMBER is told when the PART has been read.
                loads(c + " cut short in a BOX of " + b, BOUNDS, 2 + MADE[11 + c], box(b, 1, Arrays.copyOf(form, form.length - 1)));
            }
            loads("NOTHING in a BOX of " + b, 0, 2, box(b, 1, Kit.b(0)));
        }
        loads("the second one", MEMBER, 4 + 4 + 4, box(1, 3, part(1, NO_BYTES), part(0, NO_BYTES)));
    }

    /** So many values in one another, BOXES and CASES by turns, the innermost of them these bytes. */
    private static int[] nested(int values, int[] innermost, boolean inABox) {
        int[] bytes = innermost;
        boolean isBox = inABox;
        for (int i = 1; i < values; i++) {
            bytes = isBox ? box(0, 1, bytes) : part(4, bytes);
            isBox = !isBox;
        }
        return bytes;
    }

    /** What is MADE of nested(): 2 for each BOX, 4 for each CASE. */
    private static int madeOfNested(int around, boolean inABox) {
        int boxes = inABox ? (around + 1) / 2 : around / 2;
        return 2 * boxes + 4 * (around - boxes);
    }

    /** "a 31st value in one another: DEEP (ahead of its first byte)", "WRITTEN likewise; a 31st in one another: DEEP" */
    private static void thirtyOneValues() {
        for (int values = 29; values <= 32; values++) {
            for (boolean inABox : new boolean[] {true, false}) {
                for (int[] innermost : new int[][] {{0}, inABox ? part(0, NO_BYTES) : box(0, 0)}) {
                    int[] form = nested(values, innermost, inABox);
                    Kit kit = new Kit();
                    due(values + " values", kit.load(0, form), values <= 30 ? 0 : DEEP);
                    if (values <= 30) {
                        kit.saved(values + " values", 0, form);
                    } else {
                        due("S s stays", kit.house.slot(0, 0), 0);
                    }
                }
                if (values <= 31) {
                    int made = madeOfNested(values - 1, inABox);
                    loads(values + " values, no byte of the last", values <= 30 ? BOUNDS : DEEP, made,
                        nested(values, NO_BYTES, inABox));
                    loads(values + " values, the last is none", values <= 30 ? KIND : DEEP, made,
                        nested(values, Kit.b(99), inABox));
                }
            }
        }
        for (int values = 28; values <= 30; values++) {
            // A CASE round what was loaded is one value more, and a BOX round that another one.
            Kit kit = new Kit();
            due("load", kit.load(0, nested(values, Kit.b(0), values % 2 == 0)), 0);
            boolean isBox = kit.house.slot(0, 0) == 10;
            due("a CASE or a BOX", kit.does(0, 99, Kit.n(1, 1), isBox ? Kit.b(15, 1, 4) : Kit.b(14, 1, 0, 1),
                isBox ? Kit.b(28, 3, 1, 0) : Kit.b(26, 1, 7, 0)), 0);
            int made = kit.house.look(3);
            due(values + " and one more", Math.min(kit.house.save(1), 1), values < 30 ? 1 : -1 - DEEP);
            due("OUT", kit.house.look(5) > 0 ? 1 : 0, values < 30 ? 1 : 0);
            due("a FAULT in save() is not MADE", kit.house.look(3), made);
            due("that within", kit.house.save(0) > 0 ? 1 : 0, 1);
        }
    }

    /** "more than 2000 bytes: BOUNDS" */
    private static void moreThan2000Bytes() {
        // NOTHING is one byte: 5 bytes ahead of a GRID's members, 6 of a BOX's.
        int[][] sizes = {{9, 1994}, {9, 1995}, {9, 1996}, {10, 1993}, {10, 1994}, {10, 1995}};
        for (int[] size : sizes) {
            Kit kit = new Kit();
            kit.does(0, 2000, Kit.n(0, size[1]), size[0] == 9 ? Kit.b(14, 2, 0, 0) : NO_BYTES, Kit.b(14, 1, 0, 0));
            if (size[0] == 9) {
                // A GRID of NOTHING alone, by the BOX of NOTHING that goes into it.
                due("a GRID", kit.does(0, 4000, Kit.b(13, 1, 0, 7), Kit.b(21, 2, 7, 1, 7, 0)), 0);
            }
            int bytes = size[1] + (size[0] == 9 ? 5 : 6);
            due(size[1] + " in " + size[0], kit.house.save(1), bytes <= 2000 ? bytes : -1 - BOUNDS);
            due("OUT", kit.house.look(5), bytes <= 2000 ? bytes : 0);
            due("the first", kit.out(0), bytes <= 2000 ? size[0] : Kit.MISSING);
            due("the last", kit.out(bytes - 1), bytes <= 2000 ? 0 : Kit.MISSING);
        }
        // A member that would not be whole: 5 and 8 times 249 are 1997.
        for (int[] size : new int[][] {{5, 249}, {5, 250}, {7, 249}, {7, 250}, {4, 498}, {4, 499}, {2, 997}, {2, 998}, {3, 998}}) {
            Kit kit = new Kit();
            kit.does(0, 2000, Kit.n(0, size[1]), Kit.b(12, 1, size[0], 0));
            int bytes = 5 + size[1] * Model.BYTES[size[0]];
            due(size[1] + " of WIDTH " + size[0], kit.house.save(1), bytes <= 2000 ? bytes : -1 - BOUNDS);
            due("OUT", kit.house.look(5), bytes <= 2000 ? bytes : 0);
        }
    }

    /** A CASE in its own INNER, which has NOTHING ahead of it or behind it: what comes first is told. */
    private static void deepOrTooLong() {
        for (int place : new int[] {0, 149}) {
            Kit kit = new Kit();
            due("in itself", kit.does(0, 99, Kit.n(0, 150), Kit.n(1, place), Kit.b(14, 1, 0, 0), Kit.b(15, 2, 4), Kit.b(28, 3, 2, 1),
                Kit.b(26, 1, 1, 2)), 0);
            for (int s = 1; s <= 2; s++) {
                due("in itself at " + place, kit.house.save(s), -1 - (place == 0 ? DEEP : BOUNDS));
                due("OUT is empty", kit.house.look(5), 0);
            }
        }
    }

    /** "numbers from the highest byte on", "(1, 2, 2, 4, 8, 4, 8, 1 bytes; reals by their bits; of BITS the lowest bit counts)" */
    private static void membersOfRows() {
        int[] bytes = {0x80, 0x01, 0x7F, 0xFE, 0xFF, 0x00, 0x55, 0xAA, 0x3F, 0xB9, 0x99, 0x9A, 0x40, 0x09, 0x21, 0xFB};
        for (int w = 1; w <= 8; w++) {
            int each = Model.BYTES[w];
            int size = 16 / each;
            Kit kit = new Kit();
            due("WIDTH " + w, kit.load(1, Kit.b(w), Kit.four(size), bytes), 0);
            due("WIDTH " + w + ": members", kit.house.slot(1, 1), size);
            for (int i = 0; i < size; i++) {
                long value = 0;
                for (int k = 0; k < each; k++) {
                    value = value << 8 | bytes[i * each + k];
                }
                long want = w == 1 ? (byte) value : w == 2 ? value : w == 3 ? (short) value : w == 4 || w == 6 ? (int) value
                    : w == 8 ? value & 1 : value;
                due("WIDTH " + w + ", " + i, kit.member(1, i), want);
            }
            int[] written = bytes.clone();
            for (int i = 0; w == 8 && i < 16; i++) {
                written[i] &= 1;
            }
            kit.saved("WIDTH " + w, 1, Kit.b(w), Kit.four(size), written);
        }
        for (int value = 0; value < 256; value++) {
            Kit kit = new Kit();
            kit.load(0, Kit.b(8), Kit.four(1), Kit.b(value));
            due("the lowest bit counts: " + value, kit.member(0, 0), value & 1);
        }
    }

    /** "11 to 15: COUNT (4), WEIGHT (8), of PLATE, CASE PRICE (4), of CASE the form of INNER. 16: its number (4)." */
    private static void fieldsOfParts() {
        for (int value : new int[] {LEAST, GREATEST, -1, 0, 0x01020304}) {
            for (int c = 0; c < 5; c++) {
                Kit kit = new Kit();
                long weight = 0x8123456700000000L | value & 0xFFFFFFFFL;
                int[] form = Kit.join(Kit.b(11 + c), Kit.four(value), Kit.eight(weight),
                    c >= 3 ? Kit.four(~value) : NO_BYTES, c == 4 ? box(2, 1, Kit.b(0)) : NO_BYTES);
                due("CLASS " + c, kit.load(1, form), 0);
                due("COUNT", kit.member(1, 0), value);
                due("WEIGHT", kit.member(1, 1), weight);
                due("PRICE", kit.member(1, 2), c >= 3 ? ~value : Kit.MISSING);
                kit.saved("CLASS " + c, 1, form);
                if (c == 4) {
                    kit.run("INNER", 0, 0, 1, Kit.b(27, 3, 2, 1));
                    due("INNER", kit.house.slot(2, 2), 2);
                }
            }
            Kit kit = new Kit();
            due("a TROUBLE", kit.load(1, Kit.b(16), Kit.four(value)), 0);
            due("its number", kit.member(1, 0), value);
            kit.saved("a TROUBLE", 1, Kit.b(16), Kit.four(value));
        }
    }

    /** "THE FORM of a value in bytes": of what PATCHES made, too; what is WRITTEN is READ as the like of it. */
    private static void writtenAndReadAgain() {
        for (int s = 0; s < 16; s++) {
            Kit kit = allKinds();
            // A ROW with numbers in it, a GRID with NOTHING, a BOX of a PART, a CASE with that BOX, all by OPS.
            due("made", kit.does(0, 99, Kit.r(0, -0.1), Kit.n(7, 0xC0FFEE), Kit.b(20, 4, 4, 2, 7), Kit.b(20, 7, 7, 1, 0),
                Kit.b(20, 6, 6, 0, 0), Kit.b(11, 12), Kit.b(13, 9, 3, 1), Kit.b(24, 9, 1, 12), Kit.b(28, 0, 13, 7), Kit.b(28, 1, 13, 0),
                Kit.b(26, 10, 2, 13), Kit.b(28, 3, 15, 10), Kit.b(28, 2, 15, 6)), 0);
            int length = kit.house.save(s);
            int[] form = new int[Math.max(0, length)];
            for (int i = 0; i < form.length; i++) {
                form[i] = (int) kit.out(i);
            }
            due("its first byte is what it is", form[0], kit.house.slot(s, 0));
            int t = (s + 1) % 16;
            due("read again", kit.load(t, form), 0);
            due("another one, but NOTHING", kit.house.same(s, t), kit.house.slot(s, 0) == 0 ? 1 : 0);
            for (int what = 0; what < 3; what++) {
                due("the like of it", kit.house.slot(t, what), kit.house.slot(s, what));
            }
            for (int i = 0; i < 4; i++) {
                due("the like of it", kit.member(t, i), kit.member(s, i));
            }
            kit.saved("written again", t, form);
        }
    }

    /** The same thing twice is WRITTEN twice, and READ as two. */
    private static void theSameOneTwice() {
        Kit kit = new Kit();
        due("twice", kit.does(0, 99, Kit.n(0, 2), Kit.n(1, 1), Kit.b(13, 1, 0, 7), Kit.b(12, 2, 4, 7), Kit.b(24, 1, 7, 2),
            Kit.b(24, 1, 1, 2)), 0);
        kit.saved("twice", 1, grid(2, row(4, 0), row(4, 0)));
        due("load", kit.load(3, grid(2, row(4, 0), row(4, 0))), 0);
        kit.run("23", 0, 0, 2, Kit.b(23, 4, 3, 7), Kit.b(23, 5, 3, 1));
        due("two of them", kit.house.same(4, 5), 0);
    }

    /** "MADE as they are made": FULL on the way, and what was made ahead of it stays counted. */
    private static void fullOnTheWay() {
        int[] form = grid(3, row(4, 2), row(4, 0), row(4, 1));
        // 4 for the GRID, then 3, 1 and 2 for its ROWS.
        int[] steps = {4, 7, 8, 10};
        for (int room = 0; room <= 10; room++) {
            Kit kit = new Kit();
            kit.fillTo(40000 - room);
            int made = 0;
            for (int step : steps) {
                made = step <= room ? step : made;
            }
            due("room for " + room, kit.load(2, form), room == 10 ? 0 : 9);
            due("room for " + room + ": MADE", kit.house.look(3), 40000 - room + made);
            due("room for " + room + ": FULL", kit.house.look(6), room == 10 ? 0 : 1);
            due("room for " + room + ": S s", kit.house.slot(2, 0), room == 10 ? 9 : 0);
        }
    }

    public static void main(String[] args) {
        theBytesEnd();
        everyFirstByte();
        everyClass();
        belowZero();
        otherKinds();
        partsOfOtherClasses();
        thirtyOneValues();
        moreThan2000Bytes();
        deepOrTooLong();
        membersOfRows();
        fieldsOfParts();
        writtenAndReadAgain();
        theSameOneTwice();
        fullOnTheWay();
        Kit.finish();
    }
}
