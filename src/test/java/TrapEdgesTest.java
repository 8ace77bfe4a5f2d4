/** The boundary cases of exceptions and traps as they are met: ranges, what they fit, callers, the end of a thread. */
public final class TrapEdgesTest {
    private static final int BAD = PocketMachine.BAD, NONE = PocketMachine.NONE;
    private static final Due due = new Due("trap edges");

    public static void main(String[] args) {
        ranges();
        longOffsets();
        noMoreTraps();
        whatFits();
        classesThatFit();
        firstThatFits();
        whatTheHandlerGets();
        handlersThatThrow();
        callers();
        byNameToo();
        twentyDeep();
        depthIsAnException();
        lastMethod();
        due.end();
    }

    /** Class 1 is below class 0, 2 below 1, 3 apart, 4 has name 0 and name 1. */
    private static Bench bench() {
        Bench b = new Bench();
        b.cls(BAD, 1, 1);
        b.cls(0, 0, 0);
        b.cls(1, 0, 0);
        b.cls(BAD, 0, 0);
        b.cls(BAD, 0, 0);
        b.met(4, 0, 0, 0, 0, 1, 40, 0);
        b.met(4, 1, 0, 0, 0, 1, 40, 0);
        return b;
    }

    private static String caughtAt(int thrower, int from, int to) {
        Bench b = bench();
        int m = b.main(0);
        for (int i = 0; i < 6; i++) {
            // A call of what throws is one instruction that needs nothing on the stack.
            b.x.code(i == thrower ? 38 : 0, m + 1);
        }
        b.x.code(40, 0);
        b.x.code(17, 0);
        b.x.code(1, 5);
        b.x.code(46, 0);
        b.x.code(40, 0);
        b.x.trap(from, to, 7, -1);
        b.main(0, 45, 0, 43, 0);
        return b.result(m);
    }

    private static void ranges() {
        due.sentence("A TRAP from instruction a up to before b");
        due.text("at a", caughtAt(2, 2, 4), "5");
        due.text("before b", caughtAt(3, 2, 4), "5");
        due.text("before a", caughtAt(1, 2, 4), " by -1");
        due.text("at b", caughtAt(4, 2, 4), " by -1");
        due.text("one instruction alone", caughtAt(2, 2, 3), "5");
        due.text("behind it", caughtAt(3, 2, 3), " by -1");
        due.text("the first of all", caughtAt(0, 0, 1), "5");
        due.text("the last before the return", caughtAt(5, 0, 6), "5");
    }

    private static void longOffsets() {
        due.sentence("an exception there that fits goes on at the handler");
        Bench b = bench();
        int m = b.main(0);
        for (int i = 0; i < 55; i++) {
            b.x.code(19, i + 1);
        }
        b.x.code(45, 0);
        b.x.code(43, 0);
        b.x.code(17, 0);
        b.x.code(40, 0);
        b.x.code(40, 0);
        b.x.trap(55, 56, 57, -1);
        b.x.trap(0, 55, 57, -1);
        b.x.trap(56, 60, 57, -1);
        due.text("behind 165 bytes", b.result(m), "");
        due.is("instructions", b.x.told(3), 59);
    }

    private static void noMoreTraps() {
        due.sentence("how many traps; then for each trap 2 bytes a, b, handler each");
        Bench b = bench();
        // Its first bytes, 0 0 0 45 0 17 0, would be a trap of class 0 up to 45 with a handler at 17.
        int m = b.main(0, 0, 0, 0, 0, 0, 0, 45, 0, 0, 0, 17, 0, 0, 0, 26, 0, 43, 0, 0, 0, 0, 0, 0, 0, 0, 0, 0, 0, 0, 0,
                0, 0, 40, 0);
        due.text("a method without traps", b.result(m), " by 100");
        due.is("what it does", b.x.told(3), 9);
        Bench c = bench();
        int n = c.main(0, 0, 0, 0, 0, 0, 0, 45, 0, 0, 0, 17, 0, 0, 0, 26, 0, 43, 0, 40, 0, 17, 0, 40, 0);
        for (int t = 0; t < 6; t++) {
            c.x.trap(0, 1, 10, -1);
        }
        due.text("a method with six that do not fit", c.result(n), " by 100");
    }

    /** For exception k: something that meets it as its last instruction. */
    private static int[] meets(int k) {
        switch (k) {
            case 1: return new int[] {45, 0, 43, 0};
            case 2: return new int[] {1, 1, 1, 0, 7, 0, 17, 0};
            case 3: return new int[] {26, 3, 27, 0, 17, 0};
            case 4: return new int[] {1, 201, 31, 0, 17, 0};
            case 5: return new int[] {1, 1, 31, 0, 1, 1, 32, 0, 17, 0};
            case 6: return new int[] {26, 3, 39, 1};
            case 7: return new int[] {26, 4, 48, 0, 26, 4, 48, 0, 26, 4, 48, 0, 26, 4, 48, 0, 26, 4, 48, 0, 26, 4, 48, 0};
            case 8: return new int[] {26, 3, 50, 0};
            default: return new int[] {1, 200, 31, 0, 17, 0};
        }
    }

    /** Runs that with a trap of this kind; the handler puts out 44 of class 0, and 5. */
    private static String caught(int[] code, int... whats) {
        Bench b = bench();
        int n = code.length / 2;
        int m = b.main(0, code);
        b.x.code(40, 0);
        for (int w = 0; w < whats.length; w++) {
            b.x.code(44, 0);
            b.x.code(46, 0);
            b.x.code(1, 5 + w);
            b.x.code(46, 0);
            b.x.code(40, 0);
            b.x.trap(0, n, n + 1 + 5 * w, whats[w]);
        }
        return b.result(m, 50, 200);
    }

    private static void whatFits() {
        due.sentence("WHAT it fits: a class (objects of it or one below); - 1: all; - 1 - k: exception k.");
        for (int k = 1; k <= 9; k++) {
            due.text("exception " + k + " by all", caught(meets(k), -1), "0 5");
            for (int other = 1; other <= 9; other++) {
                due.text("exception " + k + " by " + (-1 - other), caught(meets(k), -1 - other),
                        k == other ? "0 5" : " by " + -k);
            }
            due.text("exception " + k + " by a class", caught(meets(k), 0), " by " + -k);
        }
    }

    private static void classesThatFit() {
        due.sentence("a class (objects of it or one below)");
        due.text("its own", caught(new int[] {26, 1, 43, 0}, 1), "1 5");
        due.text("one below", caught(new int[] {26, 2, 43, 0}, 1), "1 5");
        due.text("two below", caught(new int[] {26, 2, 43, 0}, 0), "1 5");
        due.text("one above", caught(new int[] {26, 0, 43, 0}, 1), " by 100");
        due.text("another", caught(new int[] {26, 3, 43, 0}, 0), " by 103");
        due.text("an array", caught(new int[] {1, 1, 31, 0, 43, 0}, 0), " by 110");
        due.text("an object by all", caught(new int[] {26, 3, 43, 0}, -1), "0 5");
        due.text("an array by all", caught(new int[] {1, 1, 35, 0, 43, 0}, -1), "0 5");
        for (int k = 1; k <= 9; k++) {
            due.text("an object by exception " + k, caught(new int[] {26, 3, 43, 0}, -1 - k), " by 103");
            due.text("an array by exception " + k, caught(new int[] {1, 1, 35, 0, 43, 0}, -1 - k), " by 110");
        }
    }

    private static void firstThatFits() {
        due.sentence("The first one that fits counts.");
        due.text("the sixth of six", caught(new int[] {26, 3, 43, 0}, 0, 1, 2, -2, -10, 3), "0 10");
        due.text("all of six", caught(new int[] {26, 2, 43, 0}, 0, 1, 2, -1, -1, -1), "1 5");
        due.text("the second of six", caught(new int[] {45, 0, 43, 0}, 0, -2, -1, -2, -1, -1), "0 6");
        due.text("none of six", caught(new int[] {45, 0, 43, 0}, 0, 1, 2, 3, 4, -3), " by -1");
        Bench b = bench();
        int m = b.main(0, 0, 0, 45, 0, 43, 0, 17, 0, 1, 5, 46, 0, 40, 0);
        b.x.trap(0, 2, 3, -2);
        b.x.trap(2, 3, 3, -2);
        b.x.trap(0, 7, 6, -10);
        due.text("one elsewhere does not count", b.result(m), "link " + (-1000 - 100 * m - 6));
        Bench c = bench();
        int n = c.main(0, 0, 0, 45, 0, 43, 0, 17, 0, 1, 5, 46, 0, 40, 0, 17, 0, 1, 6, 46, 0, 40, 0);
        c.x.trap(0, 2, 7, -1);
        c.x.trap(2, 3, 3, -2);
        c.x.trap(2, 3, 7, -1);
        due.text("one that is not there", c.result(n), "5");
    }

    private static void whatTheHandlerGets() {
        due.sentence("goes on at the handler with a stack of one R, the object thrown (null for exceptions 1 .. 9)");
        Bench b = bench();
        int m = b.main(1, 26, 0, 3, 0, 2, 0, 1, 77, 28, 0, 1, 1, 1, 2, 1, 3, 2, 0, 43, 0, 27, 0, 46, 0, 40, 0);
        b.x.trap(0, 10, 10, 0);
        due.text("the object, not another of its class", b.result(m), "77");
        for (int k = 1; k <= 9; k++) {
            Bench c = bench();
            int[] code = meets(k);
            int n = code.length / 2;
            int o = c.main(0, code);
            int[] rest = {40, 0, 23, n + 3, 40, 0, 1, 5, 46, 0, 40, 0};
            for (int i = 0; i < rest.length; i += 2) {
                c.x.code(rest[i], rest[i + 1]);
            }
            c.x.trap(0, n, n + 1, -1);
            due.text("null for exception " + k, c.result(o, 50, 200), "5");
        }
        Bench d = bench();
        int p = d.main(0, 1, 1, 1, 2, 1, 3, 1, 4, 1, 5, 1, 6, 1, 7, 1, 8, 26, 0, 43, 0, 17, 0,
                1, 1, 1, 2, 1, 3, 1, 4, 1, 5, 1, 6, 1, 7, 1, 8, 1, 9, 1, 10, 46, 0, 46, 0, 40, 0);
        d.x.trap(9, 10, 10, -1);
        due.text("nothing under it: there is room for ten more", d.result(p), "10 9");
    }

    private static void handlersThatThrow() {
        due.sentence("The first one that fits counts. An exception that a method has no trap for ends it");
        Bench b = bench();
        int m = b.main(0, 26, 0, 43, 0, 43, 0);
        b.x.trap(0, 2, 2, 0);
        due.text("a handler throws on", b.result(m), " by 100");
        Bench c = bench();
        int n = c.main(1, 1, 3, 3, 0, 26, 0, 43, 0, 2, 0, 46, 0, 2, 0, 1, 1, 5, 0, 16, 0, 3, 0, 20, 14, 43, 0, 40, 0,
                0, 0, 17, 0, 40, 0);
        c.x.trap(3, 13, 4, 0);
        due.text("into itself, as its range is around it", c.result(n), "3 2 1");
    }

    private static void callers() {
        due.sentence("An exception that a method has no trap for ends it, and is one of its caller at the call");
        Bench b = bench();
        int inner = b.main(0, 26, 0, 43, 0);
        int before = b.main(0, 0, 0, 38, inner, 0, 0, 40, 0, 17, 0, 1, 5, 46, 0, 40, 0);
        b.x.trap(0, 1, 4, -1);
        due.text("a trap before the call", b.result(before), " by 100");
        int at = b.main(0, 0, 0, 38, inner, 0, 0, 40, 0, 17, 0, 1, 5, 46, 0, 40, 0);
        b.x.trap(1, 2, 4, -1);
        due.text("a trap at the call", b.result(at), "5");
        int behind = b.main(0, 0, 0, 38, inner, 0, 0, 40, 0, 17, 0, 1, 5, 46, 0, 40, 0);
        b.x.trap(2, 3, 4, -1);
        due.text("a trap behind the call", b.result(behind), " by 100");
        int first = b.main(0, 38, inner, 40, 0, 17, 0, 1, 5, 46, 0, 40, 0);
        b.x.trap(0, 1, 2, 0);
        due.text("a call that is the first instruction", b.result(first), "5");
        int later = b.main(0, 38, at, 1, 6, 46, 0, 40, 0, 17, 0, 40, 0);
        b.x.trap(0, 1, 4, -1);
        due.text("one that was caught is none of the caller", b.result(later), "5 6");
    }

    private static void byNameToo() {
        due.sentence("and is one of its caller at the call");
        Bench b = bench();
        b.met(3, 2, 2, 0, 1, 3, 26, 2, 43, 0);
        int m = b.main(1, 1, 7, 3, 0, 26, 3, 1, 1, 1, 2, 39, 2, 46, 0, 40, 0, 44, 2, 46, 0, 2, 0, 46, 0, 40, 0);
        b.x.trap(2, 5, 8, -1);
        due.text("a trap before 39", b.result(m), " by 102");
        b.x.trap(5, 6, 8, 1);
        due.text("a trap at 39, and the locals of the caller", b.result(m), "1 7");
    }

    private static void twentyDeep() {
        due.sentence("it ends a thread whose method has no caller (as its return does)");
        Bench b = bench();
        int m = b.main(0, 52, 0, 1, 1, 4, 0, 16, 0, 53, 0, 1, 20, 25, 9, 26, 1, 43, 0, 38, 2, 40, 0);
        due.text("through twenty methods", b.result(m), " by 101");
        due.is("as one instruction", b.x.told(3), 20 * 7 + 19 + 2);
        due.is("it has ended", b.x.thread(0, 1), 0);
        Bench c = bench();
        int inner = 3;
        int outer = c.main(0, 38, inner, 40, 0, 44, 1, 46, 0, 40, 0);
        c.main(0, 52, 0, 1, 1, 4, 0, 16, 0, 53, 0, 1, 19, 25, 9, 26, 1, 43, 0, 38, inner, 40, 0);
        c.x.link(outer);
        c.x.boot(50, 200);
        c.x.run(1 + 19 * 7 + 18 + 1);
        due.is("twenty are one in another", c.x.thread(0, 1), 20);
        c.x.run(1);
        due.is("all of them end", c.x.thread(0, 0), 3);
        due.is("by class 1", c.x.thread(0, 2), 101);
        Bench d = bench();
        int out = d.main(0, 38, inner, 40, 0, 44, 1, 46, 0, 40, 0);
        d.x.trap(0, 1, 2, 0);
        d.main(0, 52, 0, 1, 1, 4, 0, 16, 0, 53, 0, 1, 19, 25, 9, 26, 1, 43, 0, 38, inner, 40, 0);
        due.text("the outermost of twenty has the trap", d.result(out), "1");
    }

    private static void depthIsAnException() {
        due.sentence("A thread has at most 20 methods one in another (more: 9).");
        Bench b = bench();
        int m = b.main(0, 52, 0, 1, 1, 4, 0, 53, 0, 38, 2, 40, 0, 17, 0, 52, 0, 46, 0, 40, 0);
        b.x.trap(4, 5, 6, -10);
        due.text("caught by the twentieth", b.result(m), "20");
        Bench c = bench();
        c.met(3, 3, 0, 0, 0, 1, 52, 0, 1, 1, 4, 0, 53, 0, 2, 0, 39, 3, 40, 0, 17, 0, 52, 0, 46, 0, 40, 0);
        c.x.trap(5, 6, 7, -10);
        due.text("by name, with main before them", c.result(c.main(0, 26, 3, 39, 3, 40, 0)), "19");
        Bench d = bench();
        d.met(3, 3, 0, 0, 0, 1, 52, 0, 1, 1, 4, 0, 16, 0, 53, 0, 1, 19, 25, 9, 45, 0, 19, 10, 2, 0, 39, 3, 40, 0);
        due.text("null comes before too many", d.result(d.main(0, 26, 3, 39, 3, 40, 0)), " by -1");
    }

    private static void lastMethod() {
        due.sentence("(as its return does)");
        Bench b = bench();
        b.met(3, 3, 0, 0, 0, 1, 40, 0);
        for (int returns = 0; returns <= 2; returns++) {
            int m = b.met(0, NONE, 0, 0, returns, 0, returns == 1 ? 1 : 45, 0, 40 + returns, 0);
            due.text("main returns by " + (40 + returns), b.result(m), "");
            due.is("it ended", b.x.thread(0, 0), 2);
            due.is("by no exception", b.x.thread(0, 2), 0);
            due.is("no method is left", b.x.thread(0, 1), 0);
        }
    }
}
