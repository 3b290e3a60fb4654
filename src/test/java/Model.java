import java.util.ArrayList;
import java.util.Arrays;
import java.util.List;
import java.util.NoSuchElementException;

/**
 * The document told a second time, in the machine's own terms: its arrays, classes, doubles and
 * exceptions. FuzzTest holds PatchHouse against it.
 */
final class Model {
    static final int EMPTY = 1;
    static final int BOUNDS = 2;
    static final int NEGATIVE = 3;
    static final int KIND = 4;
    static final int MEMBER = 5;
    static final int DIVISION = 6;
    static final int TOLD = 7;
    static final int DEEP = 8;

    static final class Fault extends RuntimeException {
        private static final long serialVersionUID = 1L;
        final int kind;
        final int number;

        Fault(int kind, int number) {
            super(null, null, false, false);
            this.kind = kind;
            this.number = number;
        }
    }

    static final class Over extends RuntimeException {
        private static final long serialVersionUID = 1L;
        final int answer;

        Over(int answer) {
            super(null, null, false, false);
            this.answer = answer;
        }
    }

    interface Weighed {
        double weighs(Model m, int depth);

        default double load(Model m, int n) {
            return n * weighs(m, 1);
        }
    }

    interface Priced {
        int price();

        default double load(Model m, int n) {
            return (double) n * price();
        }
    }

    static class Part {
        int count;
        double weight;

        int cls() {
            return 0;
        }

        public final double weighs(Model m, int depth) {
            if (depth == 31) {
                throw m.fault(DEEP);
            }
            m.burn(1);
            return own(m, depth);
        }

        double own(Model m, int depth) {
            return weight;
        }

        int label() {
            return 1;
        }
    }

    static class Bolt extends Part implements Weighed {
        int cls() {
            return 1;
        }

        int label() {
            return 10 * super.label() + 2;
        }
    }

    static class Screw extends Bolt {
        int cls() {
            return 2;
        }

        double own(Model m, int depth) {
            return super.own(m, depth) + 0.25 * count;
        }

        int label() {
            return 10 * super.label() + 3;
        }
    }

    static class Plate extends Part implements Weighed, Priced {
        int price;

        int cls() {
            return 3;
        }

        public int price() {
            return price;
        }

        public double load(Model m, int n) {
            return Weighed.super.load(m, n) + Priced.super.load(m, n);
        }
    }

    static class Case extends Plate {
        Part[] inner;

        int cls() {
            return 4;
        }

        double own(Model m, int depth) {
            if (inner == null) {
                throw m.fault(EMPTY);
            }
            double sum = weight;
            for (Part p : inner) {
                if (p == null) {
                    throw m.fault(EMPTY);
                }
                sum += p.weighs(m, depth + 1);
            }
            return sum;
        }

        public double load(Model m, int n) {
            return super.load(m, n) + 1.0;
        }

        int label() {
            return super.label() + 50;
        }
    }

    static final class Trouble {
        final int number;

        Trouble(int number) {
            this.number = number;
        }
    }

    final List<Integer> tape = new ArrayList<>();
    int[] out = new int[0];
    final int[][] patches = new int[16][0];
    final int[] numbers = new int[8];
    final double[] reals = new double[4];
    final Object[] slots = new Object[16];
    int made;
    boolean full;
    int fuel;
    int lastKind;
    int lastNumber;
    int lastFuel;

    // What is counted.

    Fault fault(int kind) {
        return fault(kind, 0);
    }

    Fault fault(int kind, int number) {
        make(8);
        return new Fault(kind, number);
    }

    void make(long cost) {
        if (made + cost > 40000) {
            full = true;
            throw new Over(3);
        }
        made += (int) cost;
    }

    void burn(long cost) {
        if (fuel < cost) {
            fuel = 0;
            throw new Over(2);
        }
        fuel -= (int) cost;
    }

    void burnFor(long members) {
        burn(members / 8 + (members % 8 == 0 ? 0 : 1));
    }

    // Values.

    static Part newPart(int cls) {
        return cls == 0 ? new Part() : cls == 1 ? new Bolt() : cls == 2 ? new Screw() : cls == 3 ? new Plate() : new Case();
    }

    static Object newRow(int w, int n) {
        switch (w) {
            case 1: return new byte[n];
            case 2: return new char[n];
            case 3: return new short[n];
            case 4: return new int[n];
            case 5: return new long[n];
            case 6: return new float[n];
            case 7: return new double[n];
            default: return new boolean[n];
        }
    }

    static Part[] newBox(int cls, int n) {
        switch (cls) {
            case 0: return new Part[n];
            case 1: return new Bolt[n];
            case 2: return new Screw[n];
            case 3: return new Plate[n];
            default: return new Case[n];
        }
    }

    static int boxClass(Object o) {
        return o instanceof Screw[] ? 2 : o instanceof Bolt[] ? 1 : o instanceof Case[] ? 4 : o instanceof Plate[] ? 3 : 0;
    }

    static int kind(Object o) {
        if (o == null) return 0;
        if (o instanceof byte[]) return 1;
        if (o instanceof char[]) return 2;
        if (o instanceof short[]) return 3;
        if (o instanceof int[]) return 4;
        if (o instanceof long[]) return 5;
        if (o instanceof float[]) return 6;
        if (o instanceof double[]) return 7;
        if (o instanceof boolean[]) return 8;
        if (o instanceof int[][]) return 9;
        if (o instanceof Part[]) return 10;
        if (o instanceof Part) return 11 + ((Part) o).cls();
        return 16;
    }

    static boolean hasMembers(Object o) {
        return o != null && o.getClass().isArray();
    }

    static int size(Object o) {
        return java.lang.reflect.Array.getLength(o);
    }

    static Object cloneOf(Object o) {
        Object copy = java.lang.reflect.Array.newInstance(o.getClass().getComponentType(), size(o));
        System.arraycopy(o, 0, copy, 0, size(o));
        return copy;
    }

    static long rowMember(Object o, int i) {
        switch (kind(o)) {
            case 1: return ((byte[]) o)[i];
            case 2: return ((char[]) o)[i];
            case 3: return ((short[]) o)[i];
            case 4: return ((int[]) o)[i];
            case 5: return ((long[]) o)[i];
            case 6: return Float.floatToIntBits(((float[]) o)[i]);
            case 7: return Double.doubleToLongBits(((double[]) o)[i]);
            default: return ((boolean[]) o)[i] ? 1 : 0;
        }
    }

    static void setRowMember(Object o, int i, long v) {
        switch (kind(o)) {
            case 1: ((byte[]) o)[i] = (byte) v; break;
            case 2: ((char[]) o)[i] = (char) v; break;
            case 3: ((short[]) o)[i] = (short) v; break;
            case 4: ((int[]) o)[i] = (int) v; break;
            case 5: ((long[]) o)[i] = v; break;
            case 6: ((float[]) o)[i] = Float.intBitsToFloat((int) v); break;
            case 7: ((double[]) o)[i] = Double.longBitsToDouble(v); break;
            default: ((boolean[]) o)[i] = (v & 1) == 1; break;
        }
    }

    static final int[] BYTES = {0, 1, 2, 2, 4, 8, 4, 8, 1};

    // The face.

    int feed(int a, int b, int c, int d, int e) {
        if (tape.size() + 20 > 2000) {
            return -1;
        }
        for (int x : new int[] {a, b, c, d, e}) {
            tape.add(x >>> 24);
            tape.add(x >>> 16 & 255);
            tape.add(x >>> 8 & 255);
            tape.add(x & 255);
        }
        return tape.size();
    }

    int end(int n) {
        if (n < 0 || n > tape.size()) {
            return -1;
        }
        tape.subList(n, tape.size()).clear();
        return n;
    }

    private int[] takeTape() {
        int[] bytes = new int[tape.size()];
        for (int i = 0; i < bytes.length; i++) {
            bytes[i] = tape.get(i);
        }
        tape.clear();
        return bytes;
    }

    static final class Bad extends RuntimeException {
        private static final long serialVersionUID = 1L;
        final int place;

        Bad(int place) {
            super(null, null, false, false);
            this.place = place;
        }
    }

    int patch(int p) {
        if (p < 0 || p > 15) {
            return -1;
        }
        int[] bytes = takeTape();
        if (bytes.length > 200) {
            return 201;
        }
        try {
            check(bytes, 0, bytes.length, 0);
        } catch (Bad bad) {
            return 1 + bad.place;
        }
        patches[p] = bytes;
        return 0;
    }

    // Per operand the least and the greatest; 300 + k: what it is depends on the first operand.
    static final int[][] LIMITS = {
        {}, {7, 255, 255, 255, 255}, {7, 7}, {7, 7, 6}, {3, 255, 255, 255, 255, 255, 255, 255, 255}, {3, 7},
        {7, 3}, {3, 3, 7}, {3, 9}, {7, 3, 3, 5}, {15, 15}, {15}, {15, 1008, 7}, {15, 7, 7}, {15, 4, 7},
        {15, 4}, {15, 7}, {7, 15}, {7, 15, 19}, {1008, 300, 15, 7}, {1008, 15, 7, 300}, {15, 7, 15, 7, 7},
        {15, 15}, {15, 15, 7}, {15, 7, 15}, {15, 15, 7}, {15, 7, 15}, {3, 301, 15}, {3, 15, 301},
        {5, 3, 15, 7}, {7, 200, 200}, {7, 200}, {255, 255, 255, 200, 200, 200}, {15}, {15},
    };

    static void check(int[] code, int from, int to, int nested) {
        int at = from;
        while (at < to) {
            int op = code[at];
            if (op < 1 || op > 34) throw new Bad(at);
            int[] limits = LIMITS[op];
            int next = at + 1 + limits.length;
            if (next > to) throw new Bad(at);
            if (op >= 30 && op <= 32 && nested == 10) throw new Bad(at);
            for (int i = 0; i < limits.length; i++) {
                int limit = limits[i];
                int least = 0;
                if (limit == 1008) {
                    limit = 8;
                    least = 1;
                } else if (limit == 300) {
                    limit = code[at + 1] == 6 || code[at + 1] == 7 ? 3 : 7;
                } else if (limit == 301) {
                    limit = new int[] {7, 3, 7, 15}[code[at + 1]];
                }
                if (code[at + 1 + i] < least || code[at + 1 + i] > limit) throw new Bad(at + 1 + i);
            }
            int first = op == 30 ? at + 2 : op == 31 ? at + 2 : op == 32 ? at + 4 : next;
            int sum = next;
            for (int i = first; i < next; i++) {
                sum += code[i];
                if (sum > to) throw new Bad(i);
            }
            sum = next;
            for (int i = first; i < next; i++) {
                check(code, sum, sum + code[i], nested + 1);
                sum += code[i];
            }
            at = sum;
        }
    }

    // Reading.

    int[] in;
    int at;

    int load(int s) {
        if (s < 0 || s > 15) {
            return -1;
        }
        in = takeTape();
        at = 0;
        if (full) {
            return 9;
        }
        try {
            slots[s] = read(1);
            return 0;
        } catch (Fault f) {
            return f.kind;
        } catch (Over o) {
            return 9;
        }
    }

    long bytes(int n) {
        long v = 0;
        for (int i = 0; i < n; i++) {
            if (at == in.length) throw fault(BOUNDS);
            v = v << 8 | in[at++];
        }
        return v;
    }

    int count() {
        int n = (int) bytes(4);
        if (n < 0) throw fault(NEGATIVE);
        make(1L + n);
        return n;
    }

    Object read(int depth) {
        if (depth == 31) throw fault(DEEP);
        int kind = (int) bytes(1);
        if (kind == 0) return null;
        if (kind <= 8) {
            int n = count();
            Object row = newRow(kind, n);
            for (int i = 0; i < n; i++) {
                setRowMember(row, i, bytes(BYTES[kind]));
            }
            return row;
        }
        if (kind == 9) {
            int n = count();
            int[][] grid = new int[n][];
            for (int i = 0; i < n; i++) {
                Object o = read(depth + 1);
                if (o != null && !(o instanceof int[])) throw fault(KIND);
                grid[i] = (int[]) o;
            }
            return grid;
        }
        if (kind == 10) {
            int cls = (int) bytes(1);
            if (cls > 4) throw fault(KIND);
            int n = count();
            Part[] box = newBox(cls, n);
            for (int i = 0; i < n; i++) {
                Object o = read(depth + 1);
                if (o != null && !(o instanceof Part)) throw fault(KIND);
                try {
                    box[i] = (Part) o;
                } catch (ArrayStoreException e) {
                    throw fault(MEMBER);
                }
            }
            return box;
        }
        if (kind <= 15) {
            make(4);
            Part part = newPart(kind - 11);
            part.count = (int) bytes(4);
            part.weight = Double.longBitsToDouble(bytes(8));
            if (part instanceof Plate) ((Plate) part).price = (int) bytes(4);
            if (part instanceof Case) {
                Object o = read(depth + 1);
                if (o != null && !(o instanceof Part[])) throw fault(KIND);
                ((Case) part).inner = (Part[]) o;
            }
            return part;
        }
        if (kind == 16) {
            make(4);
            return new Trouble((int) bytes(4));
        }
        throw fault(KIND);
    }

    // Writing.

    List<Integer> text;

    int save(int s) {
        if (s < 0 || s > 15) {
            return -1;
        }
        text = new ArrayList<>();
        out = new int[0];
        try {
            write(slots[s], 1);
        } catch (Fault f) {
            return -1 - f.kind;
        }
        out = new int[text.size()];
        for (int i = 0; i < out.length; i++) {
            out[i] = text.get(i);
        }
        return out.length;
    }

    void put(long v, int n) {
        for (int i = n - 1; i >= 0; i--) {
            if (text.size() == 2000) throw new Fault(BOUNDS, 0);
            text.add((int) (v >> 8 * i) & 255);
        }
    }

    void write(Object o, int depth) {
        if (depth == 31) throw new Fault(DEEP, 0);
        int kind = kind(o);
        put(kind, 1);
        if (kind == 0) return;
        if (kind <= 8) {
            put(size(o), 4);
            for (int i = 0; i < size(o); i++) {
                put(rowMember(o, i), BYTES[kind]);
            }
        } else if (kind <= 10) {
            if (kind == 10) put(boxClass(o), 1);
            put(size(o), 4);
            for (Object x : (Object[]) o) {
                write(x, depth + 1);
            }
        } else if (o instanceof Part) {
            put(((Part) o).count, 4);
            put(Double.doubleToLongBits(((Part) o).weight), 8);
            if (o instanceof Plate) put(((Plate) o).price, 4);
            if (o instanceof Case) write(((Case) o).inner, depth + 1);
        } else {
            put(((Trouble) o).number, 4);
        }
    }

    int out(int i) {
        if (i < 0 || i >= out.length) throw new NoSuchElementException();
        return out[i];
    }

    // Running.

    int run(int p, int f) {
        if (p < 0 || p > 15 || f < 0 || f > 20000) {
            return -1;
        }
        lastKind = 0;
        lastNumber = 0;
        lastFuel = f;
        if (full) {
            return 3;
        }
        fuel = f;
        int answer = 0;
        try {
            patchIn(p, 1);
        } catch (Fault fault) {
            lastKind = fault.kind;
            lastNumber = fault.number;
            answer = 1;
        } catch (Over over) {
            answer = over.answer;
        }
        lastFuel = fuel;
        return answer;
    }

    void patchIn(int p, int deep) {
        if (deep == 13) throw fault(DEEP);
        part(patches[p], 0, patches[p].length, deep);
    }

    void part(int[] code, int from, int to, int deep) {
        int at = from;
        while (at < to) {
            int[] o = Arrays.copyOfRange(code, at, at + 1 + LIMITS[code[at]].length);
            int next = at + o.length;
            burn(1);
            switch (o[0]) {
                case 30:
                    if (numbers[o[1]] != 0) {
                        part(code, next, next + o[2], deep);
                    } else {
                        part(code, next + o[2], next + o[2] + o[3], deep);
                    }
                    at = next + o[2] + o[3];
                    break;
                case 31:
                    boolean further = false;
                    while (numbers[o[1]] != 0) {
                        if (further) burn(1);
                        further = true;
                        part(code, next, next + o[2], deep);
                    }
                    at = next + o[2];
                    break;
                case 32:
                    scope(code, o, next, deep);
                    at = next + o[4] + o[5] + o[6];
                    break;
                case 33:
                    patchIn(o[1], deep + 1);
                    at = next;
                    break;
                default:
                    op(o);
                    at = next;
                    break;
            }
        }
    }

    void scope(int[] code, int[] o, int body, int deep) {
        int handler = body + o[4];
        int always = handler + o[5];
        int saves = o[2] | o[3] << 8;
        Object[] had = new Object[16];
        Object[] clones = new Object[16];
        for (int s = 0; s < 16; s++) {
            if ((saves >> s & 1) == 1) {
                had[s] = slots[s];
                if (hasMembers(slots[s])) {
                    make(1L + size(slots[s]));
                    clones[s] = cloneOf(slots[s]);
                    burnFor(size(slots[s]));
                }
            }
        }
        Fault goesOn = null;
        try {
            try {
                part(code, body, handler, deep);
            } catch (Fault f) {
                if ((o[1] >> f.kind - 1 & 1) == 0) throw f;
                for (int s = 0; s < 16; s++) {
                    if ((saves >> s & 1) == 1) {
                        slots[s] = had[s];
                        if (clones[s] != null) {
                            System.arraycopy(clones[s], 0, had[s], 0, size(had[s]));
                        }
                    }
                }
                numbers[7] = f.kind;
                numbers[6] = f.number;
                part(code, handler, always, deep);
            }
        } catch (Fault f) {
            goesOn = f;
        }
        part(code, always, always + o[6], deep);
        if (goesOn != null) throw goesOn;
    }

    /** S that must be something, and of this class. */
    <T> T must(Class<T> c, Object o) {
        if (o == null) throw fault(EMPTY);
        if (!c.isInstance(o)) throw fault(KIND);
        return c.cast(o);
    }

    <T> T mayBe(Class<T> c, Object o) {
        if (o != null && !c.isInstance(o)) throw fault(KIND);
        return c.cast(o);
    }

    int bound(int i, int n) {
        if (i < 0 || i >= n) throw fault(BOUNDS);
        return i;
    }

    Object mustRow(int w, Object o) {
        if (o == null) throw fault(EMPTY);
        if (kind(o) != w) throw fault(KIND);
        return o;
    }

    int notNegative(int n) {
        if (n < 0) throw fault(NEGATIVE);
        return n;
    }

    static long big(int[] o, int from, int n) {
        long v = 0;
        for (int i = 0; i < n; i++) {
            v = v << 8 | o[from + i];
        }
        return v;
    }

    void op(int[] o) {
        int[] nn = numbers;
        double[] rr = reals;
        Object[] ss = slots;
        switch (o[0]) {
            case 1: nn[o[1]] = (int) big(o, 2, 4); break;
            case 2: nn[o[1]] = nn[o[2]]; break;
            case 3: nn[o[1]] = ints(o[3], nn[o[1]], nn[o[2]]); break;
            case 4: rr[o[1]] = Double.longBitsToDouble(big(o, 2, 8)); break;
            case 5: rr[o[1]] = nn[o[2]]; break;
            case 6: nn[o[1]] = (int) rr[o[2]]; break;
            case 7: rr[o[1]] = two(o[3], rr[o[1]], rr[o[2]]); break;
            case 8: rr[o[1]] = one(o[2], rr[o[1]]); break;
            case 9: nn[o[1]] = compare(o[4], rr[o[2]], rr[o[3]]) ? 1 : 0; break;
            case 10: ss[o[1]] = ss[o[2]]; break;
            case 11: ss[o[1]] = null; break;
            case 12: {
                int n = notNegative(nn[o[3]]);
                make(1L + n);
                ss[o[1]] = newRow(o[2], n);
                burnFor(n);
                break;
            }
            case 13: {
                long n = notNegative(nn[o[2]]);
                long m = notNegative(nn[o[3]]);
                make(1 + n + n * (1 + m));
                ss[o[1]] = new int[(int) n][n == 0 ? 0 : (int) m];
                burnFor(n * m + n);
                break;
            }
            case 14: {
                int n = notNegative(nn[o[3]]);
                make(1L + n);
                ss[o[1]] = newBox(o[2], n);
                burnFor(n);
                break;
            }
            case 15: make(4); ss[o[1]] = newPart(o[2]); break;
            case 16: make(4); ss[o[1]] = new Trouble(nn[o[2]]); break;
            case 17: {
                Object x = must(Object.class, ss[o[2]]);
                if (!hasMembers(x)) throw fault(KIND);
                nn[o[1]] = size(x);
                break;
            }
            case 18: nn[o[1]] = is(ss[o[2]], o[3]) ? 1 : 0; break;
            case 19: {
                Object row = mustRow(o[1], ss[o[3]]);
                int i = bound(nn[o[4]], size(row));
                if (o[1] == 6) rr[o[2]] = ((float[]) row)[i];
                else if (o[1] == 7) rr[o[2]] = ((double[]) row)[i];
                else nn[o[2]] = (int) rowMember(row, i);
                break;
            }
            case 20: {
                Object row = mustRow(o[1], ss[o[2]]);
                int i = bound(nn[o[3]], size(row));
                if (o[1] == 6) ((float[]) row)[i] = (float) rr[o[4]];
                else if (o[1] == 7) ((double[]) row)[i] = rr[o[4]];
                else setRowMember(row, i, nn[o[4]]);
                break;
            }
            case 21: {
                Object a = ss[o[1]];
                Object b = ss[o[3]];
                try {
                    System.arraycopy(a, nn[o[2]], b, nn[o[4]], nn[o[5]]);
                } catch (NullPointerException e) {
                    throw fault(EMPTY);
                } catch (ArrayStoreException e) {
                    throw fault(MEMBER);
                } catch (IndexOutOfBoundsException e) {
                    throw fault(BOUNDS);
                }
                burnFor(nn[o[5]]);
                break;
            }
            case 22: {
                Object x = must(Object.class, ss[o[2]]);
                if (!hasMembers(x)) throw fault(KIND);
                make(1L + size(x));
                ss[o[1]] = cloneOf(x);
                burnFor(size(x));
                break;
            }
            default: opOnParts(o); break;
        }
    }

    void opOnParts(int[] o) {
        int[] nn = numbers;
        double[] rr = reals;
        Object[] ss = slots;
        switch (o[0]) {
            case 23: {
                int[][] g = must(int[][].class, ss[o[2]]);
                ss[o[1]] = g[bound(nn[o[3]], g.length)];
                break;
            }
            case 24: {
                int[][] g = mayBe(int[][].class, ss[o[1]]);
                int[] row = mayBe(int[].class, ss[o[3]]);
                if (g == null) throw fault(EMPTY);
                g[bound(nn[o[2]], g.length)] = row;
                break;
            }
            case 25: {
                Part[] box = must(Part[].class, ss[o[2]]);
                ss[o[1]] = box[bound(nn[o[3]], box.length)];
                break;
            }
            case 26: {
                Part[] box = mayBe(Part[].class, ss[o[1]]);
                Part p = mayBe(Part.class, ss[o[3]]);
                if (box == null) throw fault(EMPTY);
                int i = bound(nn[o[2]], box.length);
                try {
                    box[i] = p;
                } catch (ArrayStoreException e) {
                    throw fault(MEMBER);
                }
                break;
            }
            case 27: {
                Object x = ss[o[3]];
                if (o[1] == 0) nn[o[2]] = must(Part.class, x).count;
                else if (o[1] == 1) rr[o[2]] = must(Part.class, x).weight;
                else if (o[1] == 2) nn[o[2]] = must(Plate.class, x).price;
                else ss[o[2]] = must(Case.class, x).inner;
                break;
            }
            case 28: {
                Object x = ss[o[2]];
                if (o[1] == 0) must(Part.class, x).count = nn[o[3]];
                else if (o[1] == 1) must(Part.class, x).weight = rr[o[3]];
                else if (o[1] == 2) must(Plate.class, x).price = nn[o[3]];
                else {
                    Case c = mayBe(Case.class, x);
                    Part[] box = mayBe(Part[].class, ss[o[3]]);
                    if (c == null) throw fault(EMPTY);
                    c.inner = box;
                }
                break;
            }
            case 29: {
                Object x = ss[o[3]];
                int n = nn[o[4]];
                double v;
                switch (o[1]) {
                    case 0: v = must(Part.class, x).weighs(this, 1); break;
                    case 1: v = must(Weighed.class, x).load(this, n); break;
                    case 2: v = must(Priced.class, x).load(this, n); break;
                    case 3: v = must(Bolt.class, x).load(this, n); break;
                    case 4: v = must(Plate.class, x).load(this, n); break;
                    default: v = must(Part.class, x).label(); break;
                }
                rr[o[2]] = v;
                break;
            }
            default: {
                Trouble t = must(Trouble.class, ss[o[1]]);
                throw fault(TOLD, t.number);
            }
        }
    }

    int ints(int h, int x, int y) {
        if ((h == 3 || h == 4) && y == 0) throw fault(DIVISION);
        switch (h) {
            case 0: return x + y;
            case 1: return x - y;
            case 2: return x * y;
            case 3: return x / y;
            case 4: return x % y;
            case 5: return x < y ? 1 : 0;
            default: return x == y ? 1 : 0;
        }
    }

    static double two(int h, double x, double y) {
        switch (h) {
            case 0: return x + y;
            case 1: return x - y;
            case 2: return x * y;
            case 3: return x / y;
            case 4: return x % y;
            case 5: return Math.max(x, y);
            case 6: return Math.min(x, y);
            default: return StrictMath.copySign(x, y);
        }
    }

    static double one(int h, double x) {
        switch (h) {
            case 0: return Math.abs(x);
            case 1: return Math.floor(x);
            case 2: return Math.ceil(x);
            case 3: return Math.rint(x);
            case 4: return Math.signum(x);
            case 5: return Math.sqrt(x);
            case 6: return Math.ulp(x);
            case 7: return Math.nextUp(x);
            case 8: return -x;
            default: return (double) (float) x;
        }
    }

    static boolean compare(int h, double x, double y) {
        switch (h) {
            case 0: return x < y;
            case 1: return x <= y;
            case 2: return x > y;
            case 3: return x >= y;
            case 4: return x == y;
            default: return x != y;
        }
    }

    static boolean is(Object o, int h) {
        switch (h) {
            case 0: return o == null;
            case 9: return o instanceof int[][];
            case 10: return o instanceof Part[];
            case 11: return o instanceof Part;
            case 12: return o instanceof Bolt;
            case 13: return o instanceof Screw;
            case 14: return o instanceof Plate;
            case 15: return o instanceof Case;
            case 16: return o instanceof Trouble;
            case 17: return o instanceof Weighed;
            case 18: return o instanceof Priced;
            case 19: return o instanceof Bolt[];
            default: return kind(o) == h;
        }
    }

    // Telling.

    int look(int what) {
        switch (what) {
            case 0: return lastKind;
            case 1: return lastNumber;
            case 2: return lastFuel;
            case 3: return made;
            case 4: return tape.size();
            case 5: return out.length;
            case 6: return full ? 1 : 0;
            default: return what >= 7 && what <= 22 ? patches[what - 7].length : -1;
        }
    }

    int number(int n) {
        if (n < 0 || n > 7) throw new NoSuchElementException();
        return numbers[n];
    }

    long real(int r) {
        if (r < 0 || r > 3) throw new NoSuchElementException();
        return Double.doubleToLongBits(reals[r]);
    }

    int slot(int s, int what) {
        if (s < 0 || s > 15 || what < 0 || what > 2) return -1;
        Object o = slots[s];
        if (what == 0) return kind(o);
        if (what == 1) return hasMembers(o) ? size(o) : -1;
        return o instanceof Part[] ? boxClass(o) : -1;
    }

    long member(int s, int i) {
        if (s < 0 || s > 15 || slots[s] == null || i < 0) throw new NoSuchElementException();
        Object o = slots[s];
        if (hasMembers(o)) {
            if (i >= size(o)) throw new NoSuchElementException();
            if (o instanceof int[][]) return ((int[][]) o)[i] == null ? -1 : ((int[][]) o)[i].length;
            if (o instanceof Part[]) return ((Part[]) o)[i] == null ? -1 : ((Part[]) o)[i].cls();
            return rowMember(o, i);
        }
        if (i == 0) return o instanceof Part ? ((Part) o).count : ((Trouble) o).number;
        if (i == 1 && o instanceof Part) return Double.doubleToLongBits(((Part) o).weight);
        if (i == 2 && o instanceof Plate) return ((Plate) o).price;
        throw new NoSuchElementException();
    }

    int same(int s, int t) {
        if (s < 0 || s > 15 || t < 0 || t > 15) return -1;
        return slots[s] == slots[t] ? 1 : 0;
    }
}
