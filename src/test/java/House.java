/**
 * A PatchHouse whose calls are counted. An object is used for at most 512 calls after it has been
 * made, and what later calls answer is free: a test that goes beyond is itself wrong.
 */
final class House {
    static final int MOST_CALLS = 512;

    private final PatchHouse house = new PatchHouse();
    private int calls = 0;

    private PatchHouse asked() {
        calls++;
        if (calls == MOST_CALLS + 1) {
            Kit.due("a test's calls of one object", calls, MOST_CALLS);
        }
        return house;
    }

    int calls() {
        return calls;
    }

    int feed(int a, int b, int c, int d, int e) {
        return asked().feed(a, b, c, d, e);
    }

    int end(int n) {
        return asked().end(n);
    }

    int patch(int p) {
        return asked().patch(p);
    }

    int load(int s) {
        return asked().load(s);
    }

    int save(int s) {
        return asked().save(s);
    }

    int out(int i) {
        return asked().out(i);
    }

    int run(int p, int fuel) {
        return asked().run(p, fuel);
    }

    int look(int what) {
        return asked().look(what);
    }

    int number(int n) {
        return asked().number(n);
    }

    long real(int r) {
        return asked().real(r);
    }

    int slot(int s, int what) {
        return asked().slot(s, what);
    }

    long member(int s, int i) {
        return asked().member(s, i);
    }

    int same(int s, int t) {
        return asked().same(s, t);
    }
}
