/** The boundary cases of promises 15 and 16, and of MEMORY: sizes, HEAP, collections, what stays and what goes. */
public final class MemoryEdgesTest {
    private static final int BAD = PocketMachine.BAD, NONE = PocketMachine.NONE;
    private static final int MIN = Integer.MIN_VALUE, MAX = Integer.MAX_VALUE;
    private static final Due due = new Due("memory edges");

    public static void main(String[] args) {
        sizesOfObjects();
        sizesOfArrays();
        aboveHeap();
        leastHeap();
        mostHeap();
        allAtOnce();
        notEnough();
        largerThanHeap();
        statics();
        locals();
        stacks();
        methodsThatGoOn();
        methodsThatEnded();
        otherThreads();
        fieldsAndPlaces();
        chains();
        noInt();
        movedTogether();
        movedEverywhere();
        soundWithoutBoot();
        soundWhenFull();
        toldNumbers();
        toldNothing();
        toldClassesAndMethods();
        toldOuts();
        toldCollections();
        due.end();
    }

    /** Classes 0 (1 int, 1 reference: 14 bytes), 1 (none: 8 bytes). */
    private static Bench bench() {
        Bench b = new Bench();
        b.cls(BAD, 1, 1);
        b.cls(BAD, 0, 0);
        return b;
    }

    private static Bench run(Bench b, int main, int heap) {
        due.yes("it links", b.x.link(main) > 0);
        b.x.boot(50, heap);
        b.x.run(5000);
        due.yes("sound()", b.x.sound());
        due.yes("within HEAP", b.x.told(5) <= heap);
        return b;
    }

    private static void sizesOfObjects() {
        due.sentence("MEMORY: an object takes 8 bytes, and 4 for each int field, 2 for each reference field");
        for (int ints : new int[] {0, 1, 6}) {
            for (int refs : new int[] {0, 1, 6}) {
                Bench b = new Bench();
                b.cls(BAD, ints, refs);
                run(b, b.main(0, 26, 0, 17, 0, 40, 0), 8000);
                due.is(ints + " ints, " + refs + " references", b.x.told(5), 8 + 4 * ints + 2 * refs);
            }
        }
        Bench c = new Bench();
        for (int k = 0; k < 10; k++) {
            c.cls(k - 1, 6, 6);
        }
        run(c, c.main(0, 26, 9, 17, 0, 40, 0), 8000);
        due.is("60 of each, with those above", c.x.told(5), 8 + 240 + 120);
    }

    private static void sizesOfArrays() {
        due.sentence("an array 10, and 4 or 2 for each place; all even");
        for (int n : new int[] {0, 1, 2, 199, 200}) {
            Bench b = bench();
            run(b, b.main(0, 1, n, 31, 0, 17, 0, 40, 0), 8000);
            due.is(n + " ints", b.x.told(5), 10 + 4 * n);
            Bench c = bench();
            run(c, c.main(0, 1, n, 35, 0, 17, 0, 40, 0), 8000);
            due.is(n + " references", c.x.told(5), 10 + 2 * n);
        }
        Bench d = bench();
        run(d, d.main(0, 1, 1, 35, 0, 17, 0, 1, 1, 31, 0, 17, 0, 26, 1, 17, 0, 26, 0, 17, 0, 40, 0), 8000);
        due.is("one of each", d.x.told(5), 12 + 14 + 8 + 14);
    }

    private static void aboveHeap() {
        due.sentence("When what all objects that are there take, with a new one, is above HEAP");
        // An array of 25 references takes 60, one of class 0 14: 74 in all.
        for (int heap : new int[] {72, 73, 74, 75}) {
            Bench b = bench();
            run(b, b.main(2, 1, 25, 35, 0, 3, 0, 26, 0, 3, 1, 1, 1, 46, 0, 40, 0), heap);
            due.text("74 kept in " + heap, b.outs(), heap >= 74 ? "1" : "");
            due.is("exception", b.x.thread(0, 2), heap >= 74 ? 0 : -9);
            due.is("collections", b.x.told(6), heap >= 74 ? 0 : 1);
            Bench c = bench();
            run(c, c.main(2, 1, 25, 35, 0, 17, 0, 26, 0, 3, 1, 1, 1, 46, 0, 40, 0), heap);
            due.text("60 of them dropped, in " + heap, c.outs(), "1");
            due.is("collections", c.x.told(6), heap >= 74 ? 0 : 1);
            due.is("what is there", c.x.told(5), heap >= 74 ? 74 : 14);
        }
    }

    private static void leastHeap() {
        due.sentence("a HEAP 50 .. 8,000");
        Bench b = bench();
        run(b, b.main(1, 1, 10, 31, 0, 3, 0, 1, 1, 46, 0, 1, 10, 31, 0, 17, 0, 40, 0), 50);
        due.text("50 of 50, and no more", b.outs(), "1");
        due.is("exception", b.x.thread(0, 2), -9);
        Bench c = bench();
        run(c, c.main(1, 1, 11, 31, 0, 3, 0, 40, 0), 50);
        due.is("54 of 50", c.x.thread(0, 2), -9);
        Bench d = bench();
        run(d, d.main(1, 1, 21, 35, 0, 3, 0, 40, 0), 50);
        due.is("52 of 50", d.x.thread(0, 2), -9);
    }

    /** Nine arrays of 200 ints in an array of so many references, then one more of so many ints. */
    private static Bench full(int refs, int ints) {
        Bench b = bench();
        int m = b.main(2, 1, refs, 35, 0, 3, 0, 1, 0, 3, 1, 2, 0, 2, 1, 1, 200, 31, 0, 37, 0,
                2, 1, 1, 1, 4, 0, 16, 0, 3, 1, 1, 9, 25, 5, 1, ints, 31, 0, 55, 0, 1, 1, 46, 0,
                54, 0, 1, ints - 1, 1, -1, 33, 0, 2, 0, 1, 0, 36, 0, 1, 0, 1, 7, 33, 0,
                54, 0, 1, ints - 1, 32, 0, 46, 0, 2, 0, 1, 0, 36, 0, 1, 0, 32, 0, 46, 0, 40, 0);
        return run(b, m, 8000);
    }

    private static void mostHeap() {
        due.sentence("a HEAP 50 .. 8,000");
        due.is("8,000 of 8,000", full(27, 159).x.told(5), 8000);
        due.text("its first and its last place", full(27, 159).outs(), "1 -1 7");
        due.text("8,002 of 8,000", full(28, 159).outs(), "");
        due.is("exception", full(28, 159).x.thread(0, 2), -9);
        due.is("8,004 of 8,000", full(27, 160).x.thread(0, 2), -9);
    }

    private static void allAtOnce() {
        due.sentence("go, all at once (a COLLECTION)");
        Bench b = bench();
        // Six objects of 8 in a heap of 50; the second and the fifth are kept; then one more of 8.
        run(b, b.main(2, 26, 1, 17, 0, 26, 1, 3, 0, 26, 1, 17, 0, 26, 1, 17, 0, 26, 1, 3, 1, 26, 1, 17, 0,
                1, 1, 46, 0, 26, 1, 17, 0, 40, 0), 50);
        due.is("three are there", b.x.told(5), 24);
        due.is("one collection", b.x.told(6), 1);
        Bench c = bench();
        // Nothing goes before there is need of it.
        run(c, c.main(0, 26, 1, 17, 0, 26, 1, 17, 0, 26, 1, 17, 0, 26, 1, 17, 0, 26, 1, 17, 0, 26, 1, 17, 0, 40, 0), 50);
        due.is("six are there", c.x.told(5), 48);
        due.is("no collection", c.x.told(6), 0);
    }

    private static void notEnough() {
        due.sentence("if that is not enough: exception 9");
        Bench b = bench();
        // 32 are kept, 8 go: 18 are free of 50. An array of four references takes 18, one of five 20.
        for (int n : new int[] {4, 5}) {
            int m = b.main(4, 26, 1, 3, 0, 26, 1, 3, 1, 26, 1, 17, 0, 26, 1, 3, 2, 26, 1, 3, 3,
                    1, n, 35, 0, 17, 0, 1, 1, 46, 0, 40, 0);
            run(b, m, 50);
            due.is(n + " places", b.x.thread(0, 2), n == 4 ? 0 : -9);
            due.is("what is there", b.x.told(5), n == 4 ? 50 : 32);
            due.is("a collection", b.x.told(6), 1);
        }
        Bench c = bench();
        // The handler drops what was kept; then it fits.
        int m = c.main(1, 1, 10, 31, 0, 3, 0, 26, 1, 43, 0, 17, 0, 45, 0, 3, 0, 26, 1, 3, 0, 1, 1, 46, 0, 40, 0);
        c.x.trap(3, 4, 5, -10);
        run(c, m, 50);
        due.text("it is one that a trap may fit", c.outs(), "1");
        due.is("two collections", c.x.told(6), 2);
        due.is("one object", c.x.told(5), 8);
    }

    private static void largerThanHeap() {
        due.sentence("if that is not enough: exception 9");
        Bench b = bench();
        run(b, b.main(0, 26, 1, 17, 0, 1, 200, 31, 0, 17, 0, 40, 0), 809);
        due.is("810 in 809", b.x.thread(0, 2), -9);
        due.is("what was dropped is gone", b.x.told(5), 0);
        run(b, b.main(0, 26, 1, 17, 0, 1, 200, 31, 0, 17, 0, 40, 0), 810);
        due.is("810 in 810", b.x.thread(0, 2), 0);
        due.is("it is there", b.x.told(5), 810);
        Bench c = new Bench();
        for (int k = 0; k < 10; k++) {
            c.cls(k - 1, 6, 6);
        }
        run(c, c.main(0, 26, 9, 17, 0, 40, 0), 367);
        due.is("368 in 367", c.x.thread(0, 2), -9);
        run(c, c.main(0, 26, 9, 17, 0, 40, 0), 368);
        due.is("368 in 368", c.x.thread(0, 2), 0);
    }

    /** Does this, then asks for more than the heap, so that all goes that no one leads to: what is left. */
    private static int left(int locals, int... code) {
        Bench b = bench();
        int m = b.main(locals, code);
        b.x.code(1, 200);
        b.x.code(31, 0);
        b.x.code(43, 0);
        run(b, m, 700);
        due.is("one collection", b.x.told(6), 1);
        return b.x.told(5);
    }

    private static void statics() {
        due.sentence("those that no static, no local (as long as the reference stands in it) and no value on a stack of a "
                + "method that goes on, and no field or place of one that stays leads to, go");
        due.is("static 0", left(0, 26, 1, 55, 0), 8);
        due.is("static 7", left(0, 26, 1, 55, 7), 8);
        due.is("both", left(0, 26, 1, 55, 0, 26, 1, 55, 7), 16);
        due.is("all eight", left(0, 26, 1, 55, 0, 26, 1, 55, 1, 26, 1, 55, 2, 26, 1, 55, 3, 26, 1, 55, 4, 26, 1, 55, 5,
                26, 1, 55, 6, 26, 1, 55, 7), 64);
        due.is("the same in two", left(0, 26, 1, 16, 0, 55, 0, 55, 7), 8);
        due.is("null in its place", left(0, 26, 1, 55, 7, 45, 0, 55, 7), 0);
        due.is("another in its place", left(0, 26, 0, 55, 7, 26, 1, 55, 7), 8);
    }

    private static void locals() {
        due.sentence("no local (as long as the reference stands in it)");
        due.is("local 0", left(1, 26, 1, 3, 0), 8);
        due.is("local 11", left(12, 26, 1, 3, 11), 8);
        due.is("null in it", left(12, 26, 1, 3, 11, 45, 0, 3, 11), 0);
        due.is("an int in it", left(12, 26, 1, 3, 11, 1, 1, 3, 11), 0);
        due.is("another in it", left(12, 26, 0, 3, 11, 26, 1, 3, 11), 8);
        due.is("put, and dropped, it stands there still", left(12, 26, 1, 3, 11, 2, 11, 17, 0), 8);
        // Local 0 is an int on the other way, so no one may put it here; the reference stands in it all the same.
        due.is("one that is not set any more", left(1, 26, 1, 3, 0, 47, 0, 20, 6, 1, 5, 3, 0), 8);
        due.is("on that other way", left(1, 26, 1, 3, 0, 47, 0, 1, 1, 4, 0, 20, 8, 1, 5, 3, 0), 0);
    }

    private static void stacks() {
        due.sentence("no value on a stack of a method that goes on");
        due.is("one", left(0, 26, 1), 8);
        due.is("eight of them, under the new one's length and the array", left(0, 26, 1, 26, 1, 26, 1, 26, 1, 26, 1, 26, 1,
                26, 1, 26, 1), 64);
        due.is("nine", left(0, 26, 1, 45, 0, 1, 5, 45, 0, 1, 5, 45, 0, 1, 5, 45, 0, 26, 1), 16);
        due.is("dropped", left(0, 26, 1, 17, 0), 0);
        due.is("changed about", left(0, 26, 1, 1, 1, 18, 0, 17, 0), 0);
        due.is("a reference that an int was changed about with", left(0, 26, 1, 1, 5, 18, 0), 8);
        due.is("an int that a reference was changed about with", left(0, 1, 5, 26, 1, 18, 0), 8);
        due.is("two references that were changed about", left(0, 26, 0, 26, 1, 18, 0, 17, 0), 8);
        due.is("twice, one dropped", left(0, 26, 1, 16, 0, 17, 0), 8);
        due.is("taken by 23", left(0, 26, 1, 23, 2), 0);
        due.is("taken by 24", left(0, 26, 1, 26, 1, 24, 3), 0);
        due.is("taken by 44", left(0, 26, 1, 44, 0), 0);
        due.is("taken by 49", left(0, 26, 1, 49, 0), 0);
    }

    /** Method n calls n + 1 with an object in a local, and one on the stack, twenty deep. */
    private static void methodsThatGoOn() {
        due.sentence("on a stack of a method that goes on");
        Bench b = bench();
        int m = b.main(1, 26, 1, 3, 0, 26, 1, 52, 0, 1, 1, 4, 0, 16, 0, 53, 0, 1, 20, 25, 14, 1, 200, 31, 0, 43, 0,
                0, 0, 38, 0, 40, 0);
        run(b, m, 700);
        due.is("two of each of twenty", b.x.told(5), 20 * 16);
        due.is("exception 9 ends them all", b.x.thread(0, 2), -9);
        Bench c = bench();
        int takes = c.met(0, NONE, 4, 15, 0, 4, 1, 200, 31, 0, 43, 0);
        run(c, c.main(0, 26, 1, 26, 1, 26, 1, 26, 1, 26, 1, 38, takes, 40, 0), 700);
        due.is("four as arguments, one under them", c.x.told(5), 40);
        Bench d = bench();
        int drops = d.met(0, NONE, 4, 15, 0, 4, 45, 0, 3, 0, 45, 0, 3, 3, 1, 200, 31, 0, 43, 0);
        run(d, d.main(0, 26, 1, 26, 1, 26, 1, 26, 1, 26, 1, 38, drops, 40, 0), 700);
        due.is("two of them are dropped by the one that was called", d.x.told(5), 24);
        Bench e = bench();
        e.met(1, 3, 0, 0, 0, 1, 45, 0, 3, 0, 1, 200, 31, 0, 43, 0);
        run(e, e.main(0, 26, 1, 39, 3, 40, 0), 700);
        due.is("a receiver that was dropped", e.x.told(5), 0);
    }

    private static void methodsThatEnded() {
        due.sentence("of a method that goes on");
        Bench b = bench();
        int inner = b.met(0, NONE, 1, 1, 0, 12, 26, 1, 3, 11, 26, 1, 26, 1, 40, 0);
        run(b, b.main(0, 26, 1, 38, inner, 1, 200, 31, 0, 43, 0), 700);
        due.is("by its return", b.x.told(5), 0);
        Bench c = bench();
        int thrower = c.met(0, NONE, 1, 1, 0, 12, 26, 1, 3, 11, 26, 1, 26, 0, 43, 0);
        int m = c.main(0, 26, 1, 26, 1, 38, thrower, 40, 0, 1, 200, 31, 0, 43, 0);
        c.x.trap(2, 3, 4, 0);
        run(c, m, 700);
        due.is("by an exception: what it threw stays", c.x.told(5), 14);
        Bench d = bench();
        int gives = d.met(0, NONE, 0, 0, 2, 1, 26, 1, 3, 0, 26, 0, 42, 0);
        run(d, d.main(0, 38, gives, 1, 200, 31, 0, 43, 0), 700);
        due.is("what it returned stays", d.x.told(5), 14);
        Bench e = bench();
        int ints = e.met(0, NONE, 0, 0, 1, 1, 26, 1, 3, 0, 1, 1, 41, 0);
        run(e, e.main(0, 38, ints, 38, ints, 1, 200, 31, 0, 43, 0), 700);
        due.is("an int that it returned leads nowhere", e.x.told(5), 0);
        Bench f = bench();
        int fills = f.met(0, NONE, 0, 0, 0, 12, 26, 1, 3, 11, 26, 1, 40, 0);
        int asks = f.met(0, NONE, 0, 0, 0, 12, 1, 200, 31, 0, 43, 0);
        run(f, f.main(0, 38, fills, 38, asks, 40, 0), 700);
        due.is("the next one's locals are not those", f.x.told(5), 0);
    }

    private static void otherThreads() {
        due.sentence("no local (as long as the reference stands in it) and no value on a stack of a method that goes on");
        Bench b = bench();
        b.met(1, 0, 0, 0, 0, 12, 26, 1, 3, 11, 26, 1, 51, 0, 19, 4);
        int m = b.main(0, 26, 1, 48, 0, 26, 1, 48, 0, 26, 1, 48, 0, 26, 1, 48, 0, 26, 1, 48, 0, 51, 0,
                1, 200, 31, 0, 43, 0);
        run(b, m, 700);
        due.is("three of each of five: the receiver, a local, and one on the stack", b.x.told(5), 5 * 3 * 8);
        Bench c = bench();
        c.met(1, 0, 0, 0, 0, 12, 26, 1, 3, 11, 26, 1, 40, 0);
        int n = c.main(0, 26, 1, 48, 0, 51, 0, 1, 200, 31, 0, 43, 0);
        run(c, n, 700);
        due.is("none of one that ended", c.x.told(5), 0);
        Bench d = bench();
        d.met(1, 0, 0, 0, 0, 12, 26, 1, 3, 11, 2, 0, 43, 0);
        int o = d.main(0, 26, 1, 48, 0, 51, 0, 1, 200, 31, 0, 43, 0);
        run(d, o, 700);
        due.is("none of one that an exception ended", d.x.told(5), 0);
        due.is("whose class is known all the same", d.x.thread(1, 2), 101);
        Bench e = bench();
        e.met(1, 0, 0, 0, 0, 1, 2, 0, 49, 0, 40, 0);
        int p = e.main(0, 26, 1, 16, 0, 49, 0, 16, 0, 48, 0, 17, 0, 51, 0, 1, 200, 31, 0, 43, 0);
        run(e, p, 700);
        due.is("of one that waits", e.x.told(5), 8);
        due.is("as main ended with the monitor", e.x.thread(1, 0), 1);
    }

    private static void fieldsAndPlaces() {
        due.sentence("no field or place of one that stays leads to");
        due.is("a field", left(1, 26, 0, 3, 0, 2, 0, 26, 1, 30, 0), 22);
        due.is("a field of one that goes", left(1, 26, 0, 3, 0, 2, 0, 26, 1, 30, 0, 45, 0, 3, 0), 0);
        due.is("null in the field", left(1, 26, 0, 3, 0, 2, 0, 26, 1, 30, 0, 2, 0, 45, 0, 30, 0), 14);
        due.is("the first place of 100", left(1, 1, 100, 35, 0, 3, 0, 2, 0, 1, 0, 26, 1, 37, 0), 218);
        due.is("the last place of 100", left(1, 1, 100, 35, 0, 3, 0, 2, 0, 1, 99, 26, 1, 37, 0), 218);
        due.is("null in the place", left(1, 1, 100, 35, 0, 3, 0, 2, 0, 1, 99, 26, 1, 37, 0, 2, 0, 1, 99, 45, 0, 37, 0), 210);
        due.is("the last place of 200", left(1, 1, 200, 35, 0, 3, 0, 2, 0, 1, 199, 26, 1, 37, 0), 418);
        Bench b = new Bench();
        for (int c = 0; c < 10; c++) {
            b.cls(c - 1, c % 2, 6);
        }
        // The first reference field of class 0, and the last one of class 9.
        int m = b.main(1, 26, 9, 3, 0, 2, 0, 1, 0, 31, 0, 30, 0, 2, 0, 1, 1, 35, 0, 30, 77, 2, 0, 45, 0, 30, 40,
                1, 200, 31, 0, 43, 0);
        run(b, m, 700);
        due.is("the first and the last of 60 fields", b.x.told(5), 8 + 5 * 4 + 60 * 2 + 10 + 12);
        due.is("one of itself", left(1, 26, 0, 3, 0, 2, 0, 2, 0, 30, 0), 14);
        due.is("one of itself that no other leads to", left(1, 26, 0, 3, 0, 2, 0, 2, 0, 30, 0, 45, 0, 3, 0), 0);
    }

    /** A chain of so many objects of 14, the last one first; then the heap is too small for one more. */
    private static void chains() {
        due.sentence("and no field or place of one that stays leads to");
        for (int heap : new int[] {571 * 14, 8000}) {
            Bench b = bench();
            int m = b.main(2, 45, 0, 3, 0, 26, 0, 3, 1, 2, 1, 2, 0, 30, 0, 2, 1, 3, 0, 52, 0, 1, 1, 4, 0, 53, 0, 19, 2,
                    17, 0, 52, 0, 46, 0, 45, 0, 3, 1, 2, 0, 29, 0, 3, 0, 1, 1, 31, 0, 17, 0, 40, 0);
            b.x.trap(2, 3, 14, -10);
            b.x.link(m);
            b.x.boot(50, heap);
            for (int i = 0; i < 3; i++) {
                b.x.run(5000);
            }
            due.text("as long as there is room", b.outs(), "571");
            due.is("the first of it goes when it is dropped", b.x.told(5), 571 * 14);
            due.is("two collections", b.x.told(6), 2);
            due.is("it ended", b.x.thread(0, 0), 2);
            due.yes("sound()", b.x.sound());
        }
    }

    private static void noInt() {
        due.sentence("no static, no local (as long as the reference stands in it)");
        // Ints of any value, in locals, statics, fields, places and on the stack, lead nowhere.
        for (int v = 0; v <= 24; v++) {
            due.is("the int " + v, left(1, 26, 1, 17, 0, 26, 1, 17, 0, 1, v, 53, 0, 1, v, 3, 0, 1, v), 0);
            due.is("the int " + v + " in a field", left(1, 26, 1, 17, 0, 26, 0, 3, 0, 2, 0, 1, v, 28, 0), 14);
            due.is("the int " + v + " in a place", left(1, 26, 1, 17, 0, 1, 1, 31, 0, 3, 0, 2, 0, 1, 0, 1, v, 33, 0), 14);
        }
    }

    private static void movedTogether() {
        due.sentence("a collector that moves objects together");
        Bench b = bench();
        // Of eight objects of 14 every other one is kept; then one array takes all that the others left.
        int m = b.main(5);
        int[] code = {1, 4, 35, 0, 3, 4};
        for (int k = 0; k < code.length; k += 2) {
            b.x.code(code[k], code[k + 1]);
        }
        for (int i = 0; i < 4; i++) {
            int[] piece = {26, 0, 17, 0, 26, 0, 3, i, 2, i, 1, 50 + i, 28, 0, 2, 4, 1, i, 2, i, 37, 0};
            for (int k = 0; k < piece.length; k += 2) {
                b.x.code(piece[k], piece[k + 1]);
            }
        }
        b.x.code(38, m + 1);
        b.x.code(40, 0);
        b.met(0, NONE, 0, 0, 0, 0, 1, 23, 35, 0, 17, 0, 40, 0);
        // 18 for the row, 8 times 14, of which 56 go: an array of 23 takes 56.
        run(b, m, 18 + 8 * 14);
        due.is("it ended", b.x.thread(0, 2), 0);
        due.is("all of it is used", b.x.told(5), 18 + 8 * 14);
        due.is("one collection", b.x.told(6), 1);
        Bench c = bench();
        int reads = c.met(0, NONE, 2, 1, 0, 2, 2, 0, 2, 1, 36, 0, 27, 0, 46, 0, 40, 0);
        int n = c.main(3, 1, 4, 35, 0, 3, 0, 1, 0, 3, 1,
                26, 0, 17, 0, 26, 0, 3, 2, 2, 2, 1, 60, 2, 1, 4, 0, 28, 0, 2, 0, 2, 1, 2, 2, 37, 0,
                2, 1, 1, 1, 4, 0, 16, 0, 3, 1, 1, 4, 25, 5, 1, 23, 35, 0, 17, 0,
                2, 0, 1, 0, 38, reads, 2, 0, 1, 1, 38, reads, 2, 0, 1, 2, 38, reads, 2, 0, 1, 3, 38, reads, 40, 0);
        run(c, n, 18 + 8 * 14);
        due.text("and each is found where it is", c.outs(), "60 61 62 63");
        due.is("one collection", c.x.told(6), 1);
    }

    /** Two of 14 bytes go before what is kept, so that all of it moves; then it is read where it is kept. */
    private static String moved(String name, int... code) {
        Bench b = bench();
        b.met(1, 0, 0, 0, 0, 1, 40, 0);
        int dropped = b.main(0, 26, 0, 17, 0, 26, 0, 17, 0, 40, 0);
        // Takes a reference to an object of class 0, gives it back with 77 in its field.
        b.met(0, NONE, 1, 1, 2, 1, 2, 0, 1, 77, 28, 0, 2, 0, 42, 0);
        int collects = b.main(0, 1, 25, 31, 0, 17, 0, 40, 0);
        due.is("a method's number", dropped, 1);
        due.is("a method's number", collects, 3);
        run(b, b.main(12, code), 150);
        due.is(name + ": one collection", b.x.told(6), 1);
        return b.outs() + (b.x.thread(0, 2) == 0 ? "" : "by " + b.x.thread(0, 2));
    }

    private static void movedEverywhere() {
        due.sentence("Whether every reference that is there, in statics, locals, on stacks, in fields of objects that are there");
        due.text("static 0", moved("static", 38, 1, 26, 0, 38, 2, 55, 0, 38, 3, 54, 0, 27, 0, 46, 0, 40, 0), "77");
        due.text("static 7", moved("static", 38, 1, 26, 0, 38, 2, 55, 7, 38, 3, 54, 7, 27, 0, 46, 0, 40, 0), "77");
        due.text("local 0", moved("local", 38, 1, 26, 0, 38, 2, 3, 0, 38, 3, 2, 0, 27, 0, 46, 0, 40, 0), "77");
        due.text("local 11", moved("local", 38, 1, 26, 0, 38, 2, 3, 11, 38, 3, 2, 11, 27, 0, 46, 0, 40, 0), "77");
        due.text("the lowest on the stack", moved("stack", 38, 1, 26, 0, 38, 2, 38, 3, 27, 0, 46, 0, 40, 0), "77");
        due.text("the tenth on the stack", moved("stack", 38, 1, 1, 1, 1, 2, 1, 3, 1, 4, 1, 5, 1, 6, 1, 7, 1, 8, 1, 9,
                26, 0, 38, 2, 38, 3, 27, 0, 46, 0, 46, 0, 40, 0), "77 9");
        due.text("a field", moved("field", 38, 1, 26, 0, 3, 0, 2, 0, 26, 0, 38, 2, 30, 0, 38, 3,
                2, 0, 29, 0, 27, 0, 46, 0, 40, 0), "77");
        due.text("the first place", moved("place", 38, 1, 1, 3, 35, 0, 3, 0, 2, 0, 1, 0, 26, 0, 38, 2, 37, 0, 38, 3,
                2, 0, 1, 0, 36, 0, 27, 0, 46, 0, 40, 0), "77");
        due.text("the last place", moved("place", 38, 1, 1, 3, 35, 0, 3, 0, 2, 0, 1, 2, 26, 0, 38, 2, 37, 0, 38, 3,
                2, 0, 1, 2, 36, 0, 27, 0, 46, 0, 40, 0), "77");
        due.text("two that are the same stay so", moved("same", 38, 1, 26, 0, 38, 2, 16, 0, 55, 3, 3, 5, 38, 3,
                54, 3, 2, 5, 24, 12, 40, 0, 40, 0, 1, 6, 46, 0, 40, 0), "6");
        due.text("null stays null", moved("null", 38, 1, 45, 0, 3, 0, 26, 0, 3, 1, 26, 0, 17, 0, 38, 3, 2, 0, 23, 12, 40, 0,
                40, 0, 1, 6, 46, 0, 40, 0), "6");
        due.text("a monitor stays entered", moved("monitor", 38, 1, 26, 0, 3, 0, 2, 0, 49, 0, 38, 3, 2, 0, 50, 0,
                2, 0, 50, 0, 40, 0), "by -8");
        Bench b = bench();
        // Six threads, each with an object in a local and one on the stack; what lay before them goes.
        b.met(0, 0, 0, 0, 0, 2, 26, 0, 3, 1, 2, 1, 2, 0, 27, 0, 28, 0, 2, 1, 51, 0, 27, 0, 46, 0, 2, 1, 27, 0, 46, 0, 40, 0);
        int begin = b.met(0, NONE, 1, 0, 0, 2, 26, 0, 3, 1, 2, 1, 2, 0, 28, 0, 2, 1, 48, 0, 40, 0);
        int m = b.main(0, 26, 0, 17, 0, 1, 1, 38, begin, 1, 2, 38, begin, 1, 3, 38, begin, 1, 4, 38, begin, 1, 5, 38, begin,
                51, 0, 1, 1, 31, 0, 17, 0, 40, 0);
        run(b, m, 11 * 14);
        due.text("those of five threads more", b.outs(), "1 1 2 2 3 3 4 4 5 5");
        due.is("one collection", b.x.told(6), 1);
    }

    private static void soundWithoutBoot() {
        due.sentence("True also if nothing was booted.");
        due.yes("a new object", new PocketMachine().sound());
        Bench b = bench();
        due.yes("classes", b.x.sound());
        int m = b.main(0, 40, 0);
        b.x.link(m);
        due.yes("linked", b.x.sound());
        b.x.boot(0, 0);
        due.yes("a boot that was refused", b.x.sound());
        b.x.boot(5, 50);
        due.yes("booted", b.x.sound());
        b.x.run(1);
        due.yes("ended", b.x.sound());
    }

    private static void soundWhenFull() {
        due.sentence("is null or leads to the beginning of such an object, no two of which overlap, within memory");
        Bench b = full(27, 159);
        due.yes("8,000 of 8,000", b.x.sound());
        Bench c = bench();
        c.met(0, 0, 0, 0, 0, 3, 26, 0, 3, 1, 2, 1, 2, 0, 30, 0, 1, 3, 35, 0, 3, 2, 2, 2, 1, 2, 2, 1, 37, 0, 51, 0, 19, 0,
                17, 0, 45, 0, 3, 1, 45, 0, 3, 2, 19, 0);
        c.x.trap(0, 16, 16, -1);
        int m = c.main(0, 26, 0, 48, 0, 26, 0, 48, 0, 26, 0, 55, 7, 1, 5, 35, 0, 55, 0, 19, 4, 17, 0, 19, 4);
        c.x.trap(4, 9, 10, -1);
        due.yes("it links", c.x.link(m) > 0);
        c.x.boot(3, 90);
        for (int i = 0; i < 150; i++) {
            c.x.run(1 + i % 7);
            due.yes("sound()", c.x.sound());
        }
        due.yes("through collections", c.x.told(6) > 5);
    }

    private static void toldNumbers() {
        due.sentence("BAD: another number.");
        Bench b = bench();
        b.x.link(b.main(0, 40, 0));
        b.x.boot(5, 50);
        for (int what : new int[] {-1, -2, 10, 11, MIN, MAX}) {
            due.is("told(" + what + ")", b.x.told(what), BAD);
        }
        int[] want = {2, 1, 19, 0, 1, 0, 0, 0, 0, 0};
        for (int what = 0; what <= 9; what++) {
            due.is("told(" + what + ")", b.x.told(what), want[what]);
        }
    }

    private static void toldNothing() {
        due.sentence("0 as long as nothing was linked, booted.");
        PocketMachine x = new PocketMachine();
        for (int what = 0; what <= 9; what++) {
            due.is("told(" + what + ") of a new object", x.told(what), 0);
        }
        Bench b = bench();
        b.main(0, 40, 0);
        for (int what = 2; what <= 9; what++) {
            due.is("told(" + what + ") before link", b.x.told(what), 0);
        }
        b.x.link(0);
        due.is("told(2)", b.x.told(2), 19);
        for (int what = 3; what <= 9; what++) {
            due.is("told(" + what + ") before boot", b.x.told(what), 0);
        }
        b.x.boot(5, 50);
        due.is("told(4)", b.x.told(4), 1);
    }

    private static void toldClassesAndMethods() {
        due.sentence("0 classes, 1 methods, 2 the length of the image, 3 instructions done since booting, "
                + "4 threads that were begun, 5 what all objects that are there take");
        Bench b = new Bench();
        for (int c = 0; c <= 10; c++) {
            due.is("classes", b.x.told(0), c);
            b.cls(BAD, 0, 0);
        }
        due.is("classes", b.x.told(0), 10);
        for (int m = 0; m <= 24; m++) {
            due.is("methods", b.x.told(1), m);
            b.main(0, 19, 0);
        }
        due.is("methods", b.x.told(1), 24);
        b.x.link(0);
        b.x.boot(5, 50);
        b.x.run(5000);
        b.x.run(1);
        b.x.run(0);
        due.is("instructions", b.x.told(3), 5001);
        b.x.boot(5, 50);
        due.is("since booting", b.x.told(3), 0);
        for (int i = 0; i < 3; i++) {
            b.x.feed(i);
        }
        b.x.feed(256);
        due.is("bytes", b.x.told(9), 3);
        b.x.check();
        due.is("no bytes", b.x.told(9), 0);
    }

    private static void toldOuts() {
        due.sentence("7 how many ints went out, 8 inputs that are left, 9 bytes collected by feed()");
        Bench b = bench();
        b.x.link(b.main(0, 47, 0, 46, 0, 19, 0));
        b.x.boot(5, 50);
        for (int i = 0; i < 101; i++) {
            due.is("inputs", b.x.told(8), i);
            b.x.input(i);
        }
        due.is("100 inputs", b.x.told(8), 100);
        b.x.run(3 * 99 + 1);
        due.is("none is left", b.x.told(8), 0);
        b.x.run(2 + 3 * 200);
        due.is("300 went out", b.x.told(7), 300);
        b.x.run(3);
        due.is("301 went out", b.x.told(7), 301);
        due.is("inputs are never below 0", b.x.told(8), 0);
        due.yes("an input", b.x.input(9));
        due.is("one is left", b.x.told(8), 1);
    }

    private static void toldCollections() {
        due.sentence("6 collections");
        Bench b = bench();
        // Six of 8 fit in 50: the seventh is the first that needs one, then every sixth.
        b.x.link(b.main(0, 26, 1, 17, 0, 19, 0));
        b.x.boot(5, 50);
        for (int n = 1; n <= 30; n++) {
            b.x.run(1);
            due.is("collections behind " + n, b.x.told(6), (n - 1) / 6);
            due.is("what is there", b.x.told(5), 8 * ((n - 1) % 6 + 1));
            b.x.run(2);
        }
        b.x.boot(5, 50);
        due.is("none behind boot", b.x.told(6), 0);
        due.is("nothing is there", b.x.told(5), 0);
    }
}
