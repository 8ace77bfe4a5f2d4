/** Promises 10 to 13: boot, input, run, out, and what the instructions do. */
public final class RunTest {
    private static final int BAD = PocketMachine.BAD, NONE = PocketMachine.NONE;
    private static final Due due = new Due("run");

    public static void main(String[] args) {
        booting();
        bootingAgain();
        inputs();
        running();
        outs();
        arithmetic();
        stackAndLocals();
        jumps();
        objects();
        arrays();
        staticCalls();
        callsByName();
        instances();
        statics();
        depth();
        throwing();
        traps();
        trapsOfCallers();
        due.end();
    }

    private static Bench bench() {
        Bench b = new Bench();
        b.cls(BAD, 2, 1);
        b.cls(0, 1, 2);
        b.cls(BAD, 0, 0);
        return b;
    }

    /** What goes out when a main method with this code runs, and the exception that ends it. */
    private static String result(int... code) {
        Bench b = bench();
        return b.result(b.main(4, code));
    }

    private static void booting() {
        Bench b = bench();
        due.no("boot without an image", b.x.boot(5, 100));
        int m = b.main(0, 40, 0);
        due.no("boot before link", b.x.boot(5, 100));
        b.x.link(m);
        due.is("link boots nothing", b.x.run(1), BAD);
        int[][] wrong = {{0, 100}, {51, 100}, {-1, 100}, {5, 49}, {5, 8001}, {5, -1}, {Integer.MIN_VALUE, 100}};
        for (int[] w : wrong) {
            due.no("boot(" + w[0] + ", " + w[1] + ")", b.x.boot(w[0], w[1]));
        }
        due.is("nothing was booted", b.x.thread(0, 0), BAD);
        due.yes("boot(1, 50)", b.x.boot(1, 50));
        due.yes("boot(50, 8000)", b.x.boot(50, 8000));
        due.is("one thread", b.x.told(4), 1);
        due.is("it goes on", b.x.thread(0, 0), 0);
        due.is("main is in it", b.x.thread(0, 1), 1);
    }

    private static void bootingAgain() {
        Bench b = bench();
        int m = b.main(1, 52, 3, 46, 0, 54, 2, 23, 6, 1, 99, 46, 0, 1, 5, 53, 3, 26, 0, 55, 2, 47, 0, 46, 0, 40, 0);
        b.x.link(m);
        b.x.boot(5, 100);
        b.x.input(8);
        b.x.input(9);
        b.x.run(100);
        due.text("the first time", b.outs(), "0 8");
        due.is("an input is left", b.x.told(8), 1);
        due.is("an object is there", b.x.told(5), 18);
        due.no("a wrong boot", b.x.boot(0, 100));
        due.text("changes nothing", b.outs(), "0 8");
        due.is("nothing at all", b.x.told(8), 1);
        due.yes("boot", b.x.boot(5, 100));
        for (int what = 3; what <= 8; what++) {
            due.is("told(" + what + ") behind boot", b.x.told(what), what == 4 ? 1 : 0);
        }
        due.is("what went out is gone", b.x.out(0), NONE);
        b.x.run(100);
        due.text("statics begin with 0 and null", b.outs(), "0 0");
    }

    private static void inputs() {
        Bench b = bench();
        int m = b.main(0, 47, 0, 46, 0, 19, 0);
        due.no("input before boot", b.x.input(1));
        b.x.link(m);
        due.no("input behind link", b.x.input(1));
        b.x.boot(10, 100);
        for (int round = 0; round < 3; round++) {
            for (int i = 0; i < 100; i++) {
                due.yes("input " + i, b.x.input(1000 * round + i));
            }
            due.no("a 101st", b.x.input(5));
            due.is("100 are left", b.x.told(8), 100);
            b.x.run(3 * 70);
            due.is("70 were taken", b.x.told(8), 30);
            due.yes("there is room", b.x.input(Integer.MIN_VALUE));
            b.x.run(3 * 31);
        }
        due.is("first", b.x.out(0), 0);
        due.is("100th", b.x.out(99), 99);
        due.is("101st", b.x.out(100), Integer.MIN_VALUE);
        due.is("102nd", b.x.out(101), 1000);
        b.x.boot(10, 100);
        b.x.run(3);
        due.is("0 if there is none", b.x.out(0), 0);
    }

    private static void running() {
        Bench b = bench();
        int m = b.main(1, 0, 0, 0, 0, 40, 0);
        due.is("run before boot", b.x.run(1), BAD);
        b.x.link(m);
        b.x.boot(1, 50);
        for (int n : new int[] {0, -1, 5001, Integer.MAX_VALUE, Integer.MIN_VALUE}) {
            due.is("run(" + n + ")", b.x.run(n), BAD);
        }
        due.is("a wrong number does nothing", b.x.told(3), 0);
        due.is("run(1)", b.x.run(1), 1);
        due.is("it goes on", b.x.thread(0, 0), 0);
        due.is("run(5000)", b.x.run(5000), 2);
        due.is("it ended", b.x.thread(0, 0), 2);
        due.is("nothing is left", b.x.run(1), 0);
        due.is("3 in all", b.x.told(3), 3);
        int loop = b.main(1, 19, 0);
        b.x.link(loop);
        b.x.boot(50, 50);
        due.is("5,000 of no end", b.x.run(5000), 5000);
        due.is("and 7 more", b.x.run(7), 7);
        due.is("5,007", b.x.told(3), 5007);
    }

    private static void outs() {
        Bench b = bench();
        int m = b.main(1, 1, 0, 3, 0, 2, 0, 46, 0, 2, 0, 1, 1, 5, 0, 3, 0, 19, 2);
        b.x.link(m);
        due.is("out before boot", b.x.out(0), NONE);
        b.x.boot(10, 50);
        b.x.run(2 + 7 * 2);
        due.is("out(- 1)", b.x.out(-1), NONE);
        due.is("out(0)", b.x.out(0), 0);
        due.is("out(1)", b.x.out(1), -1);
        due.is("out(2)", b.x.out(2), NONE);
        b.x.run(7 * 303 - 5);
        due.is("305 went out", b.x.told(7), 305);
        due.is("out(299)", b.x.out(299), -299);
        due.is("out(300) is not kept", b.x.out(300), NONE);
        due.is("out(2^31 - 1)", b.x.out(Integer.MAX_VALUE), NONE);
    }

    private static String of(int a, int b, int op) {
        Bench bench = bench();
        int m = bench.main(4, 47, 0, 47, 0, op, 0, 46, 0, 40, 0);
        bench.x.link(m);
        bench.x.boot(9, 100);
        bench.x.input(a);
        bench.x.input(b);
        bench.x.run(100);
        return bench.outs() + (bench.x.thread(0, 2) == 0 ? "" : "by " + bench.x.thread(0, 2));
    }

    private static void arithmetic() {
        int max = Integer.MAX_VALUE;
        int min = Integer.MIN_VALUE;
        due.text("+", of(max, 1, 4), "" + min);
        due.text("-", of(3, 10, 5), "-7");
        due.text("- goes round", of(min, 1, 5), "" + max);
        due.text("*", of(100000, 100000, 6), "1410065408");
        due.text("/", of(-7, 2, 7), "-3");
        due.text("/ by 0", of(7, 0, 7), "by -2");
        due.text("- 2^31 / - 1", of(min, -1, 7), "" + min);
        due.text("%", of(-7, 2, 8), "-1");
        due.text("% by a negative", of(7, -4, 8), "3");
        due.text("% by 0", of(0, 0, 8), "by -2");
        due.text("- 2^31 % - 1", of(min, -1, 8), "0");
        due.text("negative", result(1, 5, 9, 0, 46, 0, 40, 0), "-5");
        due.text("negative of - 2^31", of(0, min, 5), "" + min);
        due.text("&", of(12, 10, 10), "8");
        due.text("|", of(12, 10, 11), "14");
        due.text("^", of(12, 10, 12), "6");
        due.text("<<", of(3, 31, 13), "" + min);
        due.text("<< 33", of(3, 33, 13), "6");
        due.text("<< - 1", of(3, -1, 13), "" + min);
        due.text(">>", of(-8, 1, 14), "-4");
        due.text(">> 32", of(-8, 32, 14), "-8");
        due.text(">>>", of(-8, 1, 15), "2147483644");
        due.text(">>> 64", of(-8, 64, 15), "-8");
    }

    private static void stackAndLocals() {
        due.text("1", result(1, -129, 46, 0, 1, 32767, 46, 0, 1, -32768, 46, 0, 1, -128, 46, 0, 1, 128, 46, 0, 40, 0),
                "-129 32767 -32768 -128 128");
        due.text("2 3", result(1, 7, 3, 3, 1, 8, 3, 0, 2, 3, 46, 0, 2, 0, 46, 0, 40, 0), "7 8");
        due.text("16", result(1, 7, 16, 0, 46, 0, 46, 0, 40, 0), "7 7");
        due.text("17", result(1, 7, 1, 8, 17, 0, 46, 0, 40, 0), "7");
        due.text("18", result(1, 7, 1, 8, 18, 0, 46, 0, 46, 0, 40, 0), "7 8");
        due.text("0", result(0, 99, 40, 0), "");
        Bench b = bench();
        due.text("the last of twelve locals", b.result(b.main(12, 1, 7, 3, 11, 1, 8, 2, 11, 46, 0, 46, 0, 40, 0)), "7 8");
        due.text("ten values", result(1, 1, 1, 2, 1, 4, 1, 8, 1, 16, 1, 32, 1, 64, 1, 128, 1, 256, 1, 512,
                4, 0, 4, 0, 4, 0, 4, 0, 4, 0, 4, 0, 4, 0, 4, 0, 4, 0, 46, 0, 40, 0), "1023");
        leftValues();
    }

    /** What a method leaves on its stack, or a throw does, is not there for the next one. */
    private static void leftValues() {
        Bench b = bench();
        int leaves = b.main(0, 1, 5, 1, 6, 1, 7, 40, 0);
        int m = b.main(1, 38, leaves, 52, 0, 1, 1, 4, 0, 16, 0, 53, 0, 1, 20, 25, 0, 38, 2, 40, 0);
        b.main(0, 1, 1, 1, 2, 1, 3, 1, 4, 1, 5, 1, 6, 1, 7, 1, 8, 1, 9, 1, 10,
                46, 0, 46, 0, 46, 0, 46, 0, 46, 0, 46, 0, 46, 0, 46, 0, 46, 0, 46, 0, 40, 0);
        due.text("stacks begin empty", b.result(m), "10 9 8 7 6 5 4 3 2 1");
        Bench c = bench();
        int n = c.main(1, 1, 1, 1, 2, 26, 0, 43, 0, 17, 0, 1, 1, 1, 2, 1, 3, 1, 4, 1, 5, 1, 6, 1, 7, 1, 8, 1, 9, 1, 10,
                46, 0, 46, 0, 46, 0, 46, 0, 46, 0, 46, 0, 46, 0, 46, 0, 46, 0, 46, 0, 40, 0);
        c.x.trap(0, 4, 4, -1);
        due.text("a handler has nothing but what was thrown", c.result(n), "10 9 8 7 6 5 4 3 2 1");
    }

    /** Puts these, then the jump over an out of 1, then an out of 2. */
    private static String jump(int op, int... before) {
        int[] code = new int[before.length + 12];
        System.arraycopy(before, 0, code, 0, before.length);
        int at = before.length;
        int[] rest = {op, before.length / 2 + 3, 1, 1, 46, 0, 1, 2, 46, 0, 40, 0};
        System.arraycopy(rest, 0, code, at, rest.length);
        return result(code);
    }

    private static void jumps() {
        due.text("19", jump(19), "2");
        due.text("20 of 0", jump(20, 1, 0), "2");
        due.text("20 of 1", jump(20, 1, 1), "1 2");
        due.text("21 of - 1", jump(21, 1, -1), "2");
        due.text("21 of 0", jump(21, 1, 0), "1 2");
        due.text("22 of 1", jump(22, 1, 1), "2");
        due.text("22 of 0", jump(22, 1, 0), "1 2");
        due.text("23 of null", jump(23, 45, 0), "2");
        due.text("23 of an object", jump(23, 26, 0), "1 2");
        due.text("24 of the same", jump(24, 26, 0, 16, 0), "2");
        due.text("24 of null and null", jump(24, 45, 0, 45, 0), "2");
        due.text("24 of two objects", jump(24, 26, 0, 26, 0), "1 2");
        due.text("24 of an object and null", jump(24, 26, 0, 45, 0), "1 2");
        due.text("25 below", jump(25, 1, 3, 1, 4), "2");
        due.text("25 the same", jump(25, 1, 4, 1, 4), "1 2");
        due.text("25 above", jump(25, 1, 5, 1, 4), "1 2");
        due.text("25 of far ones", jump(25, 1, -2, 1, 1, 1, 31, 13, 0, 15, 0, 1, 1), "2");
    }

    private static void objects() {
        due.text("new fields", result(26, 1, 3, 0, 2, 0, 27, 1, 46, 0, 2, 0, 27, 8, 46, 0, 2, 0, 29, 9, 23, 12, 40, 0,
                1, 5, 46, 0, 40, 0), "0 0 5");
        due.text("each field has its own place", result(26, 1, 3, 0,
                2, 0, 1, 11, 28, 0, 2, 0, 1, 12, 28, 1, 2, 0, 1, 13, 28, 8,
                2, 0, 2, 0, 30, 8, 2, 0, 45, 0, 30, 9,
                2, 0, 27, 0, 46, 0, 2, 0, 27, 1, 46, 0, 2, 0, 29, 8, 27, 8, 46, 0,
                2, 0, 29, 0, 23, 31, 40, 0, 1, 4, 46, 0, 40, 0), "11 12 13 4");
        due.text("fields hold whole ints", result(26, 0, 3, 0, 2, 0, 1, 1, 1, 31, 13, 0, 28, 1, 2, 0, 27, 1, 46, 0,
                2, 0, 1, -1, 28, 0, 2, 0, 27, 0, 46, 0, 40, 0), "-2147483648 -1");
        due.text("27 of null", result(45, 0, 27, 0, 46, 0, 40, 0), " by -1");
        due.text("28 of null", result(45, 0, 1, 0, 28, 0, 40, 0), " by -1");
        due.text("29 of null", result(45, 0, 29, 0, 17, 0, 40, 0), " by -1");
        due.text("30 of null", result(45, 0, 26, 0, 30, 0, 40, 0), " by -1");
        due.text("27 of an object above", result(26, 0, 27, 8, 46, 0, 40, 0), " by -3");
        due.text("28 of another class", result(26, 2, 1, 0, 28, 0, 40, 0), " by -3");
        due.text("29 of an array", result(1, 3, 35, 0, 29, 0, 17, 0, 40, 0), " by -3");
        due.text("30 of an array", result(1, 3, 31, 0, 45, 0, 30, 0, 40, 0), " by -3");
        due.text("27 of one below", result(26, 1, 27, 0, 46, 0, 40, 0), "0");
    }

    private static void arrays() {
        due.text("ints", result(1, 3, 31, 0, 3, 0, 2, 0, 1, 2, 1, -9, 33, 0, 2, 0, 1, 2, 32, 0, 46, 0,
                2, 0, 1, 0, 32, 0, 46, 0, 2, 0, 34, 0, 46, 0, 40, 0), "-9 0 3");
        due.text("references", result(1, 2, 35, 0, 3, 0, 2, 0, 1, 1, 2, 0, 37, 0, 2, 0, 1, 1, 36, 0, 34, 0, 46, 0,
                2, 0, 1, 0, 36, 0, 23, 17, 40, 0, 1, 4, 46, 0, 40, 0), "2 4");
        due.text("none", result(1, 0, 31, 0, 34, 0, 46, 0, 1, 0, 35, 0, 34, 0, 46, 0, 40, 0), "0 0");
        due.text("200", result(1, 200, 31, 0, 34, 0, 46, 0, 1, 200, 35, 0, 34, 0, 46, 0, 40, 0), "200 200");
        due.text("31 of 201", result(1, 201, 31, 0, 17, 0, 40, 0), " by -4");
        due.text("35 of 201", result(1, 201, 35, 0, 17, 0, 40, 0), " by -4");
        due.text("31 of - 1", result(1, -1, 31, 0, 17, 0, 40, 0), " by -4");
        due.text("35 of - 1", result(1, -1, 35, 0, 17, 0, 40, 0), " by -4");
        due.text("32 of null", result(45, 0, 1, 9, 32, 0, 46, 0, 40, 0), " by -1");
        due.text("33 of null", result(45, 0, 1, 9, 1, 9, 33, 0, 40, 0), " by -1");
        due.text("36 of null", result(45, 0, 1, 9, 36, 0, 17, 0, 40, 0), " by -1");
        due.text("37 of null", result(45, 0, 1, 9, 45, 0, 37, 0, 40, 0), " by -1");
        due.text("34 of null", result(45, 0, 34, 0, 46, 0, 40, 0), " by -1");
        due.text("34 of an object", result(26, 0, 34, 0, 46, 0, 40, 0), " by -3");
        due.text("32 of references, index wrong too", result(1, 1, 35, 0, 1, 9, 32, 0, 46, 0, 40, 0), " by -3");
        due.text("33 of references", result(1, 1, 35, 0, 1, 0, 1, 9, 33, 0, 40, 0), " by -3");
        due.text("36 of ints", result(1, 1, 31, 0, 1, 0, 36, 0, 17, 0, 40, 0), " by -3");
        due.text("37 of ints", result(1, 1, 31, 0, 1, 0, 45, 0, 37, 0, 40, 0), " by -3");
        due.text("36 of an object", result(26, 0, 1, 0, 36, 0, 17, 0, 40, 0), " by -3");
        due.text("32 at 2 of 2", result(1, 2, 31, 0, 1, 2, 32, 0, 46, 0, 40, 0), " by -5");
        due.text("33 at - 1", result(1, 2, 31, 0, 1, -1, 1, 0, 33, 0, 40, 0), " by -5");
        due.text("36 at 2 of 2", result(1, 2, 35, 0, 1, 2, 36, 0, 17, 0, 40, 0), " by -5");
        due.text("37 at - 1", result(1, 2, 35, 0, 1, -1, 45, 0, 37, 0, 40, 0), " by -5");
    }

    private static void staticCalls() {
        Bench b = bench();
        int minus = b.met(0, NONE, 2, 0, 1, 3, 2, 0, 2, 1, 5, 0, 41, 0);
        int which = b.met(0, NONE, 3, 5, 2, 3, 2, 1, 20, 4, 2, 0, 42, 0, 2, 2, 42, 0);
        int m = b.main(2, 1, 1, 1, 30, 1, 12, 38, minus, 46, 0, 46, 0,
                1, 4, 31, 0, 1, 0, 26, 0, 38, which, 27, 0, 46, 0,
                1, 4, 31, 0, 1, 1, 45, 0, 38, which, 34, 0, 46, 0, 40, 0);
        due.text("38", b.result(m), "18 1 0 4");
    }

    private static void callsByName() {
        Bench b = bench();
        b.met(0, 3, 1, 0, 1, 2, 2, 1, 1, 100, 4, 0, 41, 0);
        b.met(1, 3, 1, 0, 1, 2, 2, 1, 2, 0, 27, 0, 6, 0, 41, 0);
        b.cls(1, 0, 0);
        int m = b.main(1, 26, 0, 1, 5, 39, 3, 46, 0, 26, 1, 3, 0, 2, 0, 1, 7, 28, 0, 2, 0, 1, 5, 39, 3, 46, 0,
                26, 3, 1, 5, 39, 3, 46, 0, 40, 0);
        due.text("39 finds the nearest", b.result(m), "105 35 0");
        Bench zero = bench();
        zero.met(0, 0, 2, 0, 1, 3, 2, 1, 2, 2, 5, 0, 41, 0);
        zero.met(0, 7, 4, 9, 1, 5, 2, 2, 2, 3, 5, 0, 41, 0);
        due.text("39 of the first name and the last one", zero.result(zero.main(0, 26, 0, 1, 9, 1, 5, 39, 0, 46, 0,
                26, 0, 45, 0, 1, 9, 1, 3, 45, 0, 39, 7, 46, 0, 40, 0)), "4 6");
        due.text("39 of null", b.result(b.main(1, 45, 0, 1, 5, 39, 3, 46, 0, 40, 0)), " by -1");
        due.text("39 of a class without it", b.result(b.main(1, 26, 2, 1, 5, 39, 3, 46, 0, 40, 0)), " by -6");
        due.text("39 of an array", b.result(b.main(1, 1, 3, 35, 0, 1, 5, 39, 3, 46, 0, 40, 0)), " by -6");
        Bench c = bench();
        c.met(2, 3, 2, 0, 0, 3, 40, 0);
        due.text("the receiver is looked for under the arguments, though no class with the method is made",
                c.result(c.main(1, 26, 0, 45, 0, 1, 4, 1, 5, 39, 3, 40, 0)), " by -1");
        due.text("and so is one that has none", c.result(c.main(1, 45, 0, 26, 0, 1, 4, 1, 5, 39, 3, 40, 0)), " by -6");
    }

    private static void instances() {
        due.text("44", result(26, 1, 44, 0, 46, 0, 26, 1, 44, 1, 46, 0, 26, 0, 44, 1, 46, 0, 26, 2, 44, 0, 46, 0,
                45, 0, 44, 0, 46, 0, 1, 1, 31, 0, 44, 0, 46, 0, 40, 0), "1 1 0 0 0 0");
    }

    private static void statics() {
        due.text("52 .. 55", result(1, 5, 53, 0, 1, 6, 53, 7, 52, 0, 46, 0, 52, 7, 46, 0, 52, 3, 46, 0,
                1, 8, 31, 0, 55, 7, 54, 7, 34, 0, 46, 0, 54, 0, 23, 19, 40, 0, 1, 1, 46, 0, 40, 0), "5 6 0 8 1");
        Bench b = bench();
        int other = b.main(0, 52, 4, 1, 1, 4, 0, 53, 4, 40, 0);
        due.text("all methods have the same statics", b.result(b.main(0, 38, other, 38, other, 52, 4, 46, 0, 40, 0)), "2");
    }

    private static void depth() {
        Bench b = bench();
        int m = b.main(0, 52, 0, 1, 1, 4, 0, 53, 0, 38, 0, 40, 0);
        due.text("without an end", b.result(m), " by -9");
        due.is("20 methods began", b.x.told(3), 5 * 20);
        Bench c = bench();
        int n = c.main(0, 52, 0, 16, 0, 46, 0, 1, 1, 4, 0, 53, 0, 38, 0, 40, 0, 17, 0, 40, 0);
        c.x.trap(6, 7, 8, -10);
        c.x.link(n);
        c.x.boot(50, 100);
        c.x.run(19 * 7);
        due.is("20 are one in another", c.x.thread(0, 1), 20);
        c.x.run(6);
        due.is("still", c.x.thread(0, 1), 20);
        c.x.run(1);
        due.is("the call did not come to be", c.x.thread(0, 1), 20);
        c.x.run(2);
        due.is("its handler is in the caller", c.x.thread(0, 1), 19);
        c.x.run(5000);
        due.is("all returned", c.x.thread(0, 0), 2);
        due.is("20 times", c.x.told(7), 20);
    }

    private static void throwing() {
        due.text("43", result(26, 1, 43, 0), " by 101");
        due.text("43 of class 0", result(26, 0, 43, 0), " by 100");
        due.text("43 of an array", result(1, 1, 35, 0, 43, 0), " by 110");
        due.text("43 of null", result(45, 0, 43, 0), " by -1");
        Bench b = bench();
        int m = b.main(0, 26, 2, 43, 0);
        due.text("the class of the source", b.result(m), " by 102");
        due.is("though the image has but one", b.x.image(2), 1);
        Bench c = bench();
        while (c.x.told(0) < 10) {
            c.cls(c.x.told(0) - 1, 0, 0);
        }
        due.text("the last of ten", c.result(c.main(0, 45, 0, 44, 0, 46, 0, 45, 0, 44, 1, 46, 0, 26, 9, 43, 0)), "0 0 by 109");
        due.is("all of them are in the image", c.x.image(2), 10);
    }

    /** Throws by the code before, with traps that put out 10 and more, and the class test of what they get. */
    private static String caught(int[] whats, int... code) {
        Bench b = bench();
        int n = code.length / 2;
        int[] all = new int[code.length + 2 + whats.length * 10];
        System.arraycopy(code, 0, all, 0, code.length);
        all[code.length] = 40;
        for (int w = 0; w < whats.length; w++) {
            int[] handler = {44, 0, 46, 0, 1, 10 + w, 46, 0, 40, 0};
            System.arraycopy(handler, 0, all, code.length + 2 + w * 10, 10);
        }
        int m = b.main(1, all);
        for (int w = 0; w < whats.length; w++) {
            b.x.trap(0, n, n + 1 + 5 * w, whats[w]);
        }
        return b.result(m);
    }

    private static void traps() {
        due.text("all", caught(new int[] {-1}, 26, 1, 43, 0), "1 10");
        due.text("all, of an array", caught(new int[] {-1}, 1, 1, 31, 0, 43, 0), "0 10");
        due.text("all, of an exception", caught(new int[] {-1}, 45, 0, 27, 0, 17, 0), "0 10");
        due.text("the class", caught(new int[] {1}, 26, 1, 43, 0), "1 10");
        due.text("a class above", caught(new int[] {0}, 26, 1, 43, 0), "1 10");
        due.text("a class below does not fit", caught(new int[] {1}, 26, 0, 43, 0), " by 100");
        due.text("a class does not fit an array", caught(new int[] {0}, 1, 1, 31, 0, 43, 0), " by 110");
        due.text("a class does not fit an exception", caught(new int[] {0}, 45, 0, 43, 0), " by -1");
        due.text("an exception does not fit an object", caught(new int[] {-2}, 26, 0, 43, 0), " by 100");
        due.text("exception 1", caught(new int[] {-2}, 45, 0, 43, 0), "0 10");
        due.text("exception 1, not 2", caught(new int[] {-3}, 45, 0, 43, 0), " by -1");
        due.text("exception 2", caught(new int[] {-2, -3}, 1, 1, 1, 0, 7, 0, 46, 0), "0 11");
        due.text("exception 3", caught(new int[] {-4}, 26, 2, 27, 0, 46, 0), "0 10");
        due.text("exception 4", caught(new int[] {-5}, 1, 300, 31, 0, 17, 0), "0 10");
        due.text("exception 5", caught(new int[] {-6}, 1, 3, 31, 0, 1, 3, 32, 0, 46, 0), "0 10");
        due.text("exception 8", caught(new int[] {-9}, 26, 0, 50, 0), "0 10");
        due.text("the first one that fits", caught(new int[] {1, 0, -1}, 26, 0, 43, 0), "1 11");
        due.text("the first of two that fit", caught(new int[] {-1, 0}, 26, 0, 43, 0), "1 10");
        due.text("in a trap's range is its beginning, not its end", ranges(), "1 2");
    }

    private static String ranges() {
        Bench b = bench();
        int m = b.main(0, 45, 0, 43, 0, 17, 0, 1, 1, 46, 0, 45, 0, 43, 0, 17, 0, 1, 9, 46, 0, 40, 0, 17, 0,
                1, 2, 46, 0, 40, 0);
        b.x.trap(1, 2, 2, -1);
        b.x.trap(2, 6, 7, -1);
        b.x.trap(6, 7, 11, -1);
        return b.result(m);
    }

    private static void trapsOfCallers() {
        Bench b = bench();
        int deep = b.met(0, NONE, 1, 0, 1, 1, 26, 1, 43, 0);
        int middle = b.met(0, NONE, 1, 0, 1, 1, 1, 5, 2, 0, 38, deep, 4, 0, 41, 0, 17, 0, 1, 0, 41, 0);
        b.x.trap(0, 2, 5, -1);
        b.x.trap(3, 5, 5, -1);
        b.x.trap(2, 3, 5, -2);
        int m = b.main(1, 1, 7, 38, middle, 46, 0, 40, 0, 44, 1, 46, 0, 40, 0);
        b.x.trap(0, 1, 4, -1);
        b.x.trap(1, 2, 4, 0);
        due.text("an exception is one of the caller at the call", b.result(m), "1");
        due.is("the whole way is one instruction", b.x.told(3), 2 + 3 + 2 + 3);
    }
}
