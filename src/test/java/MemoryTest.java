/** Promises 15 and 16: sound and told, with what objects take and when they go. */
public final class MemoryTest {
    private static final int BAD = PocketMachine.BAD, NONE = PocketMachine.NONE;
    private static final Due due = new Due("memory");

    public static void main(String[] args) {
        tellsOnlyTen();
        counts();
        sizes();
        fullToTheLastByte();
        collections();
        tooLarge();
        whatStays();
        localsAndStacks();
        whatReturnedGoes();
        objectsMove();
        lastOfTenClasses();
        soundAllTheWay();
        due.end();
    }

    private static Bench bench() {
        Bench b = new Bench();
        b.cls(BAD, 1, 1);
        b.cls(0, 2, 3);
        b.cls(BAD, 0, 0);
        return b;
    }

    private static void tellsOnlyTen() {
        Bench b = bench();
        due.is("told(- 1)", b.x.told(-1), BAD);
        due.is("told(10)", b.x.told(10), BAD);
        due.is("told(2^31 - 1)", b.x.told(Integer.MAX_VALUE), BAD);
    }

    private static void counts() {
        Bench b = bench();
        due.is("classes", b.x.told(0), 3);
        int m = b.main(0, 47, 0, 46, 0, 26, 2, 17, 0, 40, 0);
        due.is("methods", b.x.told(1), 1);
        due.is("nothing was linked", b.x.told(2), 0);
        int length = b.x.link(m);
        due.is("the image", b.x.told(2), length);
        due.is("no thread yet", b.x.told(4), 0);
        b.x.boot(5, 100);
        due.is("a thread", b.x.told(4), 1);
        b.x.input(3);
        b.x.input(4);
        due.is("inputs", b.x.told(8), 2);
        b.x.run(3);
        due.is("instructions", b.x.told(3), 3);
        due.is("objects", b.x.told(5), 8);
        due.is("outs", b.x.told(7), 1);
        due.is("an input is left", b.x.told(8), 1);
        b.x.feed(1);
        b.x.feed(2);
        due.is("bytes", b.x.told(9), 2);
        b.x.check();
        due.is("no bytes", b.x.told(9), 0);
        due.is("collections", b.x.told(6), 0);
        due.yes("sound()", b.x.sound());
    }

    private static void size(int want, int... code) {
        Bench b = bench();
        int[] all = new int[code.length + 4];
        System.arraycopy(code, 0, all, 0, code.length);
        all[code.length] = 17;
        all[code.length + 2] = 40;
        b.x.link(b.main(0, all));
        b.x.boot(9, 8000);
        b.x.run(9);
        due.is("size", b.x.told(5), want);
        due.yes("sound()", b.x.sound());
    }

    private static void sizes() {
        size(8 + 4 + 2, 26, 0);
        size(8 + 4 * 3 + 2 * 4, 26, 1);
        size(8, 26, 2);
        size(10, 1, 0, 31, 0);
        size(10, 1, 0, 35, 0);
        size(10 + 4 * 200, 1, 200, 31, 0);
        size(10 + 2 * 7, 1, 7, 35, 0);
    }

    private static void fullToTheLastByte() {
        Bench b = bench();
        int m = b.main(2, 1, 10, 31, 0, 3, 0, 26, 2, 3, 1, 1, 1, 46, 0, 26, 2, 17, 0, 40, 0);
        due.text("58 of 58", b.result(m, 9, 58), "1 by -9");
        due.is("one collection", b.x.told(6), 1);
        due.is("both stay", b.x.told(5), 58);
        due.text("59", b.result(m, 9, 59), "1 by -9");
        due.text("57", b.result(m, 9, 57), " by -9");
        due.text("66", b.result(m, 9, 66), "1");
        due.is("no collection", b.x.told(6), 0);
        due.is("three are there", b.x.told(5), 66);
        Bench c = bench();
        // An array of 27 references takes 64, nine of 200 ints take 810 each, one of 159 ints the last 646.
        int full = c.main(2, 1, 27, 35, 0, 3, 0, 1, 0, 3, 1, 2, 0, 2, 1, 1, 200, 31, 0, 37, 0,
                2, 1, 1, 1, 4, 0, 16, 0, 3, 1, 1, 9, 25, 5, 1, 159, 31, 0, 55, 0, 1, 1, 46, 0,
                2, 0, 1, 8, 36, 0, 1, 199, 1, 77, 33, 0, 2, 0, 1, 8, 36, 0, 1, 199, 32, 0, 46, 0,
                54, 0, 1, 158, 1, -1, 33, 0, 54, 0, 1, 158, 32, 0, 46, 0, 1, 0, 31, 0, 43, 0);
        due.text("8,000 of 8,000", c.result(full, 9, 8000), "1 77 -1 by -9");
        due.is("all of it", c.x.told(5), 64 + 9 * 810 + 646);
        due.yes("sound()", c.x.sound());
    }

    private static void collections() {
        Bench b = bench();
        int m = b.main(0, 26, 2, 17, 0, 52, 0, 1, 1, 4, 0, 16, 0, 53, 0, 1, 40, 25, 0, 40, 0);
        due.text("40 objects in a heap of 50", b.result(m, 9, 50), "");
        // Six fit; the seventh, and every sixth behind it, finds no room: 7, 13, 19, 25, 31, 37.
        due.is("collections", b.x.told(6), 6);
        due.is("there are the last four", b.x.told(5), 4 * 8);
    }

    private static void tooLarge() {
        Bench b = bench();
        int m = b.main(1, 26, 2, 17, 0, 26, 2, 3, 0, 1, 200, 31, 0, 17, 0, 40, 0, 17, 0, 1, 3, 46, 0, 40, 0);
        b.x.trap(5, 6, 8, -10);
        due.text("more than the whole heap", b.result(m, 9, 500), "3");
        due.is("a collection all the same", b.x.told(6), 1);
        due.is("what no one leads to is gone", b.x.told(5), 8);
        due.yes("sound()", b.x.sound());
    }

    /** Fills locals and more with objects of class 2 (8 bytes), then asks for so much that all others go. */
    private static void stays(String what, int bytes, int... code) {
        Bench b = bench();
        int[] all = new int[code.length + 6];
        System.arraycopy(code, 0, all, 0, code.length);
        int[] rest = {1, 200, 31, 0, 43, 0};
        System.arraycopy(rest, 0, all, code.length, 6);
        int m = b.main(6, all);
        due.text(what, b.result(m, 9, 500), " by -9");
        due.is(what, b.x.told(5), bytes);
        due.is(what + ": one collection", b.x.told(6), 1);
        due.yes("sound()", b.x.sound());
    }

    private static void whatStays() {
        stays("dropped", 0, 26, 2, 17, 0);
        stays("a static", 8, 26, 2, 55, 7);
        stays("a local", 8, 26, 2, 3, 5);
        stays("on the stack", 8, 26, 2);
        stays("two on the stack, one twice", 16, 26, 2, 26, 2, 16, 0);
        stays("a local that was set anew", 8, 26, 2, 3, 0, 26, 2, 3, 0);
        stays("a local that an int is set to", 0, 26, 2, 3, 0, 1, 7, 3, 0);
        stays("a local that null is set to", 0, 26, 2, 3, 0, 45, 0, 3, 0);
        stays("a static that null is set to", 0, 26, 2, 55, 0, 45, 0, 55, 0);
        stays("a field", 14 + 8, 26, 0, 16, 0, 26, 2, 30, 0);
        stays("a field of one below", 28 + 8, 26, 1, 16, 0, 26, 2, 30, 10);
        stays("a place", 16 + 8, 1, 3, 35, 0, 16, 0, 1, 2, 26, 2, 37, 0);
        stays("a chain", 14 + 14 + 8, 26, 0, 16, 0, 26, 0, 16, 0, 3, 0, 30, 0, 2, 0, 26, 2, 30, 0, 45, 0, 3, 0);
        stays("a circle goes", 0, 26, 0, 3, 0, 26, 0, 3, 1, 2, 0, 2, 1, 30, 0, 2, 1, 2, 0, 30, 0,
                45, 0, 3, 0, 45, 0, 3, 1);
        stays("a circle that is led to", 28, 26, 0, 3, 0, 26, 0, 3, 1, 2, 0, 2, 1, 30, 0, 2, 1, 2, 0, 30, 0,
                45, 0, 3, 0);
        stays("an int that looks like a reference", 0, 26, 2, 17, 0, 1, 1, 3, 0, 1, 1, 53, 0, 1, 1);
        stays("a monitor that was entered", 0, 26, 2, 49, 0);
    }

    private static void localsAndStacks() {
        Bench b = bench();
        // On the way through 6 local 0 is an int, so it is not set at 8; the reference stands in it all the same.
        int m = b.main(1, 26, 2, 3, 0, 47, 0, 20, 6, 1, 5, 3, 0, 1, 200, 31, 0, 43, 0);
        due.text("a local that no one may put", b.result(m, 9, 500), " by -9");
        due.is("stays as long as the reference stands in it", b.x.told(5), 8);
        Bench c = bench();
        int inner = c.met(2, NONE, 1, 1, 0, 2, 26, 2, 17, 0, 26, 2, 3, 1, 1, 200, 31, 0, 17, 0, 40, 0);
        int n = c.main(1, 26, 2, 3, 0, 26, 2, 26, 2, 38, inner, 40, 0);
        c.x.link(n);
        c.x.boot(50, 500);
        c.x.run(5 + 5);
        due.is("five objects", c.x.told(5), 5 * 8);
        c.x.run(1);
        due.is("one was dropped; callers' locals and stacks stay", c.x.told(5), 4 * 8);
        due.is("it ended", c.x.thread(0, 2), -9);
        Bench e = bench();
        e.met(2, 0, 0, 0, 0, 2, 26, 2, 51, 0, 19, 2);
        int p = e.main(1, 26, 2, 48, 0, 26, 2, 17, 0, 51, 0, 1, 200, 31, 0, 17, 0, 40, 0, 17, 0, 19, 10);
        e.x.trap(6, 7, 9, -1);
        e.x.link(p);
        e.x.boot(50, 500);
        e.x.run(50);
        due.is("locals and stacks of other threads", e.x.told(5), 16);
    }

    private static void whatReturnedGoes() {
        Bench b = bench();
        int inner = b.met(2, NONE, 1, 1, 0, 2, 26, 2, 3, 1, 26, 2, 40, 0);
        int m = b.main(1, 26, 2, 38, inner, 1, 200, 31, 0, 17, 0, 40, 0);
        due.text("too large", b.result(m, 9, 500), " by -9");
        due.is("locals and stacks of methods that ended", b.x.told(5), 0);
        Bench c = bench();
        c.met(2, 0, 0, 0, 0, 2, 2, 0, 43, 0);
        int n = c.main(1, 26, 2, 48, 0, 51, 0, 1, 200, 31, 0, 17, 0, 40, 0);
        due.text("too large", c.result(n, 9, 500), " by -9");
        due.is("what a thread threw", c.x.told(5), 0);
        due.is("is known by its class", c.x.thread(1, 2), 102);
        Bench d = bench();
        int again = d.met(2, NONE, 0, 0, 0, 2, 1, 200, 31, 0, 17, 0, 40, 0);
        int o = d.main(1, 1, 0, 38, 2, 38, again, 40, 0);
        d.met(2, NONE, 1, 0, 0, 2, 26, 2, 3, 1, 40, 0);
        due.text("too large", d.result(o, 9, 500), " by -9");
        due.is("a method's locals begin empty where another's stood", d.x.told(5), 0);
    }

    private static void objectsMove() {
        Bench b = bench();
        // Every other object is kept in a chain, with its number; then they are read back.
        int m = b.main(3, 1, 0, 3, 0, 45, 0, 3, 1,
                26, 0, 3, 2, 2, 2, 2, 0, 28, 0, 2, 2, 2, 1, 30, 0, 2, 2, 3, 1, 26, 1, 17, 0,
                2, 0, 1, 1, 4, 0, 16, 0, 3, 0, 1, 20, 25, 4,
                2, 1, 23, 33, 2, 1, 27, 0, 46, 0, 2, 1, 29, 0, 3, 1, 19, 23, 0, 0, 40, 0);
        due.text("20 are kept", b.result(m, 9, 20 * 14 + 30), "19 18 17 16 15 14 13 12 11 10 9 8 7 6 5 4 3 2 1 0");
        due.yes("collections", b.x.told(6) > 3);
        due.yes("sound()", b.x.sound());
    }

    private static void lastOfTenClasses() {
        Bench b = new Bench();
        for (int c = 0; c < 10; c++) {
            b.cls(c - 1, 1, 1);
        }
        int m = b.main(1, 26, 0, 17, 0, 26, 9, 3, 0, 2, 0, 1, 5, 28, 72, 2, 0, 26, 8, 30, 72, 2, 0, 29, 72, 1, 6, 28, 64,
                1, 200, 35, 0, 17, 0, 2, 0, 27, 72, 46, 0, 2, 0, 29, 72, 27, 64, 46, 0, 2, 0, 27, 40, 46, 0, 40, 0);
        due.text("fields of the last classes, moved", b.result(m, 9, 8 + 60 + 8 + 54 + 410), "5 6 0");
        due.is("a collection", b.x.told(6), 1);
        due.is("sizes", b.x.told(5), 8 + 60 + 8 + 54 + 410);
        due.yes("sound()", b.x.sound());
    }

    private static void soundAllTheWay() {
        Bench b = bench();
        b.met(0, 0, 0, 0, 0, 2, 26, 1, 3, 1, 2, 0, 2, 1, 30, 0, 2, 1, 2, 0, 30, 10, 1, 3, 35, 0, 16, 0, 1, 1,
                2, 1, 37, 0, 55, 3, 19, 0, 17, 0, 45, 0, 55, 3, 45, 0, 55, 4, 19, 0);
        b.x.trap(0, 16, 16, -10);
        int m = b.main(1, 26, 1, 48, 0, 26, 0, 48, 0, 26, 1, 16, 0, 3, 0, 55, 4, 1, 2, 31, 0, 17, 0, 19, 4,
                17, 0, 19, 4);
        b.x.trap(4, 12, 12, -1);
        due.yes("link", b.x.link(m) > 0);
        b.x.boot(7, 260);
        for (int n = 0; n < 300; n++) {
            due.is("run(13)", b.x.run(13), 13);
            due.yes("sound()", b.x.sound());
            due.yes("within the heap", b.x.told(5) <= 260);
        }
        due.yes("collections", b.x.told(6) > 20);
    }
}
