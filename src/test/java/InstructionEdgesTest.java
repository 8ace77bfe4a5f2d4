/** The boundary cases of the instructions 0 .. 47 and 52 .. 55 as they are done. */
public final class InstructionEdgesTest {
    private static final int BAD = PocketMachine.BAD, NONE = PocketMachine.NONE;
    private static final int MIN = Integer.MIN_VALUE, MAX = Integer.MAX_VALUE;
    private static final Due due = new Due("instruction edges");

    public static void main(String[] args) {
        nothing();
        constants();
        localsAndStack();
        wrapAround();
        byNought();
        leastByMinusOne();
        negative();
        bits();
        shifts();
        targets();
        onlyNought();
        onlyNull();
        same();
        below();
        newObjects();
        fieldsOfNullAndOthers();
        fieldsFirstAndLast();
        arraySizes();
        arrayOrder();
        arrayIndexes();
        lengths();
        staticCalls();
        argumentsThatAreReferences();
        returns();
        callsByName();
        throwing();
        classTests();
        inputs();
        statics();
        due.end();
    }

    /** Classes 0 (6 ints, 6 references), 1 below it (6, 6), 2 below that (0, 0), 3 (0, 0). */
    private static Bench bench() {
        Bench b = new Bench();
        b.cls(BAD, 6, 6);
        b.cls(0, 6, 6);
        b.cls(1, 0, 0);
        b.cls(BAD, 0, 0);
        return b;
    }

    private static String result(int... code) {
        Bench b = bench();
        return b.result(b.main(12, code));
    }

    /** What an instruction that takes ints makes of these inputs. */
    private static String of(int op, int... inputs) {
        Bench b = bench();
        int m = b.main(0);
        for (int i = 0; i < inputs.length; i++) {
            b.x.code(47, 0);
        }
        b.x.code(op, 0);
        b.x.code(46, 0);
        b.x.code(40, 0);
        b.x.link(m);
        b.x.boot(9, 50);
        for (int input : inputs) {
            b.x.input(input);
        }
        b.x.run(9);
        return b.outs() + (b.x.thread(0, 2) == 0 ? "" : "by " + b.x.thread(0, 2));
    }

    private static void nothing() {
        due.sentence("0 nothing.");
        due.text("alone", result(0, 0, 40, 0), "");
        due.text("between others, with any operand", result(0, MIN, 1, 5, 0, -1, 0, MAX, 46, 0, 0, 77, 40, 0), "5");
        due.sentence("45 puts null.");
        due.text("it is null", result(45, 0, 23, 4, 1, 0, 46, 0, 1, 1, 46, 0, 40, 0), "1");
        due.text("each is the same", result(45, 0, 45, 0, 24, 5, 1, 0, 46, 0, 1, 1, 46, 0, 40, 0), "1");
    }

    private static void constants() {
        due.sentence("1 puts the int o (- 32,768 .. 32,767).");
        for (int v : new int[] {-32768, -32767, -257, -256, -129, -128, -127, -1, 0, 1, 127, 128, 255, 256, 32766, 32767}) {
            due.text("1 " + v, result(1, v, 46, 0, 40, 0), "" + v);
        }
    }

    private static void localsAndStack() {
        due.sentence("2 puts local o. 3 takes X to local o.");
        due.text("the first and the last of twelve",
                result(1, 5, 3, 0, 1, 6, 3, 11, 2, 0, 46, 0, 2, 11, 46, 0, 40, 0), "5 6");
        Bench all = bench();
        int m = all.main(12);
        for (int l = 0; l < 12; l++) {
            all.x.code(1, 10 + l);
            all.x.code(3, l);
        }
        for (int l = 0; l < 12; l++) {
            all.x.code(2, 11 - l);
            all.x.code(46, 0);
        }
        all.x.code(40, 0);
        due.text("all twelve", all.result(m), "21 20 19 18 17 16 15 14 13 12 11 10");
        due.sentence("16 takes X, puts X X. 17 takes X. 18 takes X Y, puts Y X.");
        due.text("16 with ten then", result(1, 1, 1, 2, 1, 3, 1, 4, 1, 5, 1, 6, 1, 7, 1, 8, 1, 9, 16, 0,
                46, 0, 46, 0, 46, 0, 40, 0), "9 9 8");
        due.text("18 with ten", result(1, 1, 1, 2, 1, 3, 1, 4, 1, 5, 1, 6, 1, 7, 1, 8, 1, 9, 1, 10, 18, 0,
                46, 0, 46, 0, 46, 0, 40, 0), "9 10 8");
        due.text("17 with ten", result(1, 1, 1, 2, 1, 3, 1, 4, 1, 5, 1, 6, 1, 7, 1, 8, 1, 9, 1, 10, 17, 0,
                46, 0, 46, 0, 40, 0), "9 8");
        due.text("18 of two kinds", result(1, 4, 45, 0, 18, 0, 46, 0, 23, 6, 40, 0, 1, 5, 46, 0, 40, 0), "4 5");
    }

    private static void wrapAround() {
        due.sentence("4 .. 15 take I I (9 one I), put I: + - * / % (5, 7, 8: the lower one less, by the upper one");
        due.text("2^31 - 1 and 1", of(4, MAX, 1), "-2147483648");
        due.text("- 2^31 and - 1", of(4, MIN, -1), "2147483647");
        due.text("- 2^31 twice", of(4, MIN, MIN), "0");
        due.text("- 2^31 less 1", of(5, MIN, 1), "2147483647");
        due.text("2^31 - 1 less - 1", of(5, MAX, -1), "-2147483648");
        due.text("the lower one less the upper one", of(5, 3, 10), "-7");
        due.text("46,341 by itself", of(6, 46341, 46341), "-2147479015");
        due.text("46,340 by itself", of(6, 46340, 46340), "2147395600");
        due.text("65,536 by itself", of(6, 65536, 65536), "0");
        due.text("- 2^31 by - 1", of(6, MIN, -1), "-2147483648");
        due.text("7 / 2", of(7, 7, 2), "3");
        due.text("- 7 / 2", of(7, -7, 2), "-3");
        due.text("7 / - 2", of(7, 7, -2), "-3");
        due.text("2 / 7", of(7, 2, 7), "0");
        due.text("- 7 % 2", of(8, -7, 2), "-1");
        due.text("7 % - 2", of(8, 7, -2), "1");
        due.text("2 % 7", of(8, 2, 7), "2");
        due.text("- 2^31 / 1", of(7, MIN, 1), "-2147483648");
        due.text("1 / - 2^31", of(7, 1, MIN), "0");
    }

    private static void byNought() {
        due.sentence("by 0: exception 2");
        due.text("7 / 0", of(7, 7, 0), "by -2");
        due.text("0 / 0", of(7, 0, 0), "by -2");
        due.text("- 2^31 / 0", of(7, MIN, 0), "by -2");
        due.text("7 % 0", of(8, 7, 0), "by -2");
        due.text("0 % 0", of(8, 0, 0), "by -2");
        due.text("0 / 1", of(7, 0, 1), "0");
        due.text("0 / - 1", of(7, 0, -1), "0");
        due.text("0 % 1", of(8, 0, 1), "0");
        due.text("0 * 0 is none", of(6, 0, 0), "0");
    }

    private static void leastByMinusOne() {
        due.sentence("- 2^31 by - 1 is - 2^31, its rest 0");
        due.text("- 2^31 / - 1", of(7, MIN, -1), "-2147483648");
        due.text("- 2^31 % - 1", of(8, MIN, -1), "0");
        due.text("- 2^31 + 1 / - 1", of(7, MIN + 1, -1), "2147483647");
        due.text("- 2^31 + 1 % - 1", of(8, MIN + 1, -1), "0");
        due.text("- 2^31 / - 2^31", of(7, MIN, MIN), "1");
        due.text("2^31 - 1 % - 2^31", of(8, MAX, MIN), "2147483647");
    }

    private static void negative() {
        due.sentence("9 its negative");
        due.text("- 2^31", of(9, MIN), "-2147483648");
        due.text("2^31 - 1", of(9, MAX), "-2147483647");
        due.text("0", of(9, 0), "0");
        due.text("- 1", of(9, -1), "1");
    }

    private static void bits() {
        due.sentence("& | ^ << >> >>> (as ints of 32 bits do; the lower one by the lowest five bits of the upper one)");
        due.text("- 2^31 & - 1", of(10, MIN, -1), "-2147483648");
        due.text("- 2^31 & 2^31 - 1", of(10, MIN, MAX), "0");
        due.text("- 2^31 | 2^31 - 1", of(11, MIN, MAX), "-1");
        due.text("0 | 0", of(11, 0, 0), "0");
        due.text("- 1 ^ - 2^31", of(12, -1, MIN), "2147483647");
        due.text("5 ^ 5", of(12, 5, 5), "0");
    }

    private static void shifts() {
        due.sentence("the lower one by the lowest five bits of the upper one");
        int[][] rows = {
            {13, 1, 0, 1}, {13, 1, 31, MIN}, {13, 1, 32, 1}, {13, 1, 33, 2}, {13, 1, -1, MIN}, {13, 1, -32, 1},
            {13, 1, MIN, 1}, {13, 1, MAX, MIN}, {13, 3, 31, MIN}, {13, -1, 31, MIN}, {13, 2, 31, 0},
            {14, MIN, 0, MIN}, {14, MIN, 31, -1}, {14, MIN, 32, MIN}, {14, MIN, 33, -1073741824}, {14, MIN, -1, -1},
            {14, MAX, 31, 0}, {14, MAX, 30, 1}, {14, -1, 1, -1},
            {15, MIN, 0, MIN}, {15, MIN, 31, 1}, {15, MIN, 32, MIN}, {15, MIN, 33, 1073741824}, {15, MIN, -1, 1},
            {15, -1, 1, MAX}, {15, -1, 31, 1}, {15, -1, 64, -1}};
        for (int[] row : rows) {
            due.text(row[1] + " by " + row[2] + " with " + row[0], of(row[0], row[1], row[2]), "" + row[3]);
        }
    }

    /** Takes inputs, does the jump over an out of 1, and puts out 2. */
    private static boolean jumps(int op, int... inputs) {
        Bench b = bench();
        int m = b.main(0);
        for (int i = 0; i < inputs.length; i++) {
            b.x.code(47, 0);
        }
        b.x.code(op, inputs.length + 3);
        b.x.code(1, 1);
        b.x.code(46, 0);
        b.x.code(40, 0);
        b.x.link(m);
        b.x.boot(9, 50);
        for (int input : inputs) {
            b.x.input(input);
        }
        b.x.run(9);
        return b.x.told(7) == 0;
    }

    private static void targets() {
        due.sentence("19 goes to target o.");
        due.text("forwards", result(19, 3, 1, 1, 46, 0, 1, 2, 46, 0, 40, 0), "2");
        due.text("to the next one", result(19, 1, 1, 2, 46, 0, 40, 0), "2");
        due.text("backwards", result(19, 4, 1, 3, 46, 0, 40, 0, 1, 2, 46, 0, 19, 1), "2 3");
        due.text("to the last one", result(1, 1, 19, 4, 46, 0, 40, 0, 40, 0), "");
        due.text("to itself", result(1, 1, 46, 0, 19, 2), "1 state 0");
        due.text("to the first one", result(47, 0, 46, 0, 52, 0, 22, 8, 1, 1, 53, 0, 19, 0, 0, 0, 40, 0), "0 0");
    }

    private static void onlyNought() {
        due.sentence("20, 21, 22 take I, and go there if it is 0, below 0, above 0.");
        for (int v : new int[] {MIN, -65536, -1, 0, 1, 65536, MAX}) {
            due.is("20 of " + v, jumps(20, v) ? 1 : 0, v == 0 ? 1 : 0);
            due.is("21 of " + v, jumps(21, v) ? 1 : 0, v < 0 ? 1 : 0);
            due.is("22 of " + v, jumps(22, v) ? 1 : 0, v > 0 ? 1 : 0);
        }
        due.yes("19 always", jumps(19));
    }

    private static void onlyNull() {
        due.sentence("23 takes R: if null.");
        due.text("null", result(45, 0, 23, 4, 1, 1, 46, 0, 40, 0), "");
        due.text("the first object", result(26, 3, 23, 4, 1, 1, 46, 0, 40, 0), "1");
        due.text("an array of none", result(1, 0, 31, 0, 23, 5, 1, 1, 46, 0, 40, 0), "1");
        due.text("a field that is new", result(26, 0, 29, 5, 23, 5, 1, 1, 46, 0, 40, 0), "");
    }

    private static void same() {
        due.sentence("24 takes R R: if the same.");
        due.text("null and null", result(45, 0, 45, 0, 24, 5, 1, 1, 46, 0, 40, 0), "");
        due.text("an object twice", result(26, 3, 16, 0, 24, 5, 1, 1, 46, 0, 40, 0), "");
        due.text("two alike", result(26, 3, 26, 3, 24, 5, 1, 1, 46, 0, 40, 0), "1");
        due.text("an object and null", result(26, 3, 45, 0, 24, 5, 1, 1, 46, 0, 40, 0), "1");
        due.text("null and an object", result(45, 0, 26, 3, 24, 5, 1, 1, 46, 0, 40, 0), "1");
    }

    private static void below() {
        due.sentence("25 takes I I: if the lower one is below the upper one.");
        due.yes("1 below 2", jumps(25, 1, 2));
        due.no("2 below 2", jumps(25, 2, 2));
        due.no("3 below 2", jumps(25, 3, 2));
        due.yes("- 2^31 below 2^31 - 1", jumps(25, MIN, MAX));
        due.no("2^31 - 1 below - 2^31", jumps(25, MAX, MIN));
        due.yes("- 1 below 0", jumps(25, -1, 0));
        due.no("- 2^31 below itself", jumps(25, MIN, MIN));
    }

    private static void newObjects() {
        due.sentence("26 puts a new object of class o (all fields 0, null).");
        Bench b = bench();
        // An object of class 1 is filled and dropped; in a heap that holds one, the next takes its place.
        int m = b.main(1, 26, 1, 3, 0, 2, 0, 1, -1, 28, 0, 2, 0, 1, -1, 28, 13, 2, 0, 2, 0, 30, 0, 2, 0, 2, 0, 30, 13,
                45, 0, 3, 0, 26, 1, 3, 0, 2, 0, 27, 0, 46, 0, 2, 0, 27, 13, 46, 0,
                2, 0, 29, 0, 23, 29, 1, 1, 46, 0, 2, 0, 29, 13, 23, 34, 1, 2, 46, 0, 40, 0);
        due.text("where another one stood", b.result(m, 9, 8 + 12 * 4 + 12 * 2), "0 0");
        due.is("a collection made the place", b.x.told(6), 1);
        Bench c = bench();
        int n = c.main(1, 1, 200, 31, 0, 3, 0, 2, 0, 1, 0, 1, -1, 33, 0, 2, 0, 1, 199, 1, -1, 33, 0, 45, 0, 3, 0,
                1, 200, 31, 0, 3, 0, 2, 0, 1, 0, 32, 0, 46, 0, 2, 0, 1, 199, 32, 0, 46, 0, 40, 0);
        due.text("an array where another one stood", c.result(n, 9, 810), "0 0");
        Bench d = bench();
        int o = d.main(1, 1, 200, 35, 0, 3, 0, 2, 0, 1, 0, 2, 0, 37, 0, 2, 0, 1, 199, 2, 0, 37, 0, 45, 0, 3, 0,
                1, 200, 35, 0, 3, 0, 2, 0, 1, 0, 36, 0, 23, 22, 1, 1, 46, 0, 0, 0, 2, 0, 1, 199, 36, 0, 23, 29,
                1, 2, 46, 0, 40, 0);
        due.text("an array of references", d.result(o, 9, 410), "");
        due.sentence("one that a thread has entered stays so when the thread ends");
        Bench e = bench();
        int p = e.main(1, 26, 3, 49, 0, 1, 10, 31, 0, 50, 0, 40, 0);
        due.text("but not for the next object at its place", e.result(p, 9, 50), " by -8");
        due.is("a collection made the place", e.x.told(6), 1);
    }

    private static void fieldsOfNullAndOthers() {
        due.sentence("A null: exception 1; an object that is not of that class or one below it: 3.");
        int[][] reads = {{27, 0}, {27, 13}, {29, 0}, {29, 13}};
        for (int[] read : reads) {
            int c = read[1] / 8;
            due.text(read[0] + " of null", result(45, 0, read[0], read[1], 17, 0, 40, 0), " by -1");
            due.text(read[0] + " of its class", result(26, c, read[0], read[1], 17, 0, 40, 0), "");
            due.text(read[0] + " of one below", result(26, c + 1, read[0], read[1], 17, 0, 40, 0), "");
            due.text(read[0] + " of one far below", result(26, 2, read[0], read[1], 17, 0, 40, 0), "");
            due.text(read[0] + " of another", result(26, 3, read[0], read[1], 17, 0, 40, 0), " by -3");
            due.text(read[0] + " of ints", result(1, 9, 31, 0, read[0], read[1], 17, 0, 40, 0), " by -3");
            due.text(read[0] + " of references", result(1, 9, 35, 0, read[0], read[1], 17, 0, 40, 0), " by -3");
            int put = read[0] == 27 ? 1 : 45;
            int set = read[0] + 1;
            due.text(set + " of null", result(45, 0, put, 0, set, read[1], 40, 0), " by -1");
            due.text(set + " of its class", result(26, c, put, 0, set, read[1], 40, 0), "");
            due.text(set + " of one far below", result(26, 2, put, 0, set, read[1], 40, 0), "");
            due.text(set + " of another", result(26, 3, put, 0, set, read[1], 40, 0), " by -3");
            due.text(set + " of ints", result(1, 9, 31, 0, put, 0, set, read[1], 40, 0), " by -3");
            due.text(set + " of references", result(1, 9, 35, 0, put, 0, set, read[1], 40, 0), " by -3");
        }
        due.text("27 of the class above", result(26, 0, 27, 8, 17, 0, 40, 0), " by -3");
        due.text("28 of the class above", result(26, 0, 1, 0, 28, 8, 40, 0), " by -3");
        due.text("29 of the class above", result(26, 0, 29, 8, 17, 0, 40, 0), " by -3");
        due.text("30 of the class above", result(26, 0, 45, 0, 30, 8, 40, 0), " by -3");
        due.text("30 of null into null", result(45, 0, 26, 0, 30, 0, 40, 0), " by -1");
        due.text("30 of null into an object", result(26, 0, 45, 0, 30, 0, 40, 0), "");
    }

    private static void fieldsFirstAndLast() {
        due.sentence("int field of class o / 8, its own number o % 8");
        Bench b = bench();
        int m = b.main(1, 26, 2, 3, 0);
        int[] operands = {0, 5, 8, 13};
        for (int i = 0; i < 4; i++) {
            int[] code = {2, 0, 1, 10 + i, 28, operands[i]};
            for (int k = 0; k < 6; k += 2) {
                b.x.code(code[k], code[k + 1]);
            }
        }
        for (int o : new int[] {0, 1, 5, 8, 12, 13}) {
            b.x.code(2, 0);
            b.x.code(27, o);
            b.x.code(46, 0);
        }
        b.x.code(40, 0);
        due.text("the first and the last of a class and of the one above", b.result(m), "10 0 11 12 0 13");
        due.sentence("29, 30 so for reference fields (R, puts R; R R).");
        Bench c = bench();
        int n = c.main(1, 26, 2, 3, 0);
        int[] refs = {0, 1, 5, 8, 12, 13};
        for (int i = 0; i < refs.length; i++) {
            int[] code = {2, 0, 1, 10 + i, 31, 0, 30, refs[i]};
            for (int k = 0; k < code.length; k += 2) {
                c.x.code(code[k], code[k + 1]);
            }
        }
        for (int o : refs) {
            c.x.code(2, 0);
            c.x.code(29, o);
            c.x.code(34, 0);
            c.x.code(46, 0);
        }
        c.x.code(40, 0);
        due.text("references have their own places", c.result(n), "10 11 12 13 14 15");
        due.text("whole ints", result(26, 0, 3, 0, 2, 0, 1, 1, 1, 31, 13, 0, 28, 5, 2, 0, 27, 5, 46, 0,
                2, 0, 1, -1, 28, 5, 2, 0, 27, 5, 46, 0, 40, 0), "-2147483648 -1");
    }

    private static void arraySizes() {
        due.sentence("31 takes I, puts a new array of so many ints; 35 of references (below 0: exception 4; above 200, too: 4).");
        for (int op : new int[] {31, 35}) {
            for (int n : new int[] {0, 1, 199, 200}) {
                due.text(op + " of " + n, ofArray(op, n), "" + n);
            }
            for (int n : new int[] {-1, 201, 256, 65536, MIN, MAX}) {
                due.text(op + " of " + n, ofArray(op, n), "by -4");
            }
        }
        Bench b = bench();
        due.text("201 is too many before it is too large", b.result(b.main(0, 1, 201, 31, 0, 40, 0), 9, 50), " by -4");
        due.is("without a collection", b.x.told(6), 0);
        due.text("200 is too large", b.result(b.main(0, 1, 200, 31, 0, 40, 0), 9, 50), " by -9");
    }

    private static String ofArray(int op, int length) {
        Bench b = bench();
        int m = b.main(0, 47, 0, op, 0, 34, 0, 46, 0, 40, 0);
        b.x.link(m);
        b.x.boot(9, 8000);
        b.x.input(length);
        b.x.run(9);
        return b.outs() + (b.x.thread(0, 2) == 0 ? "" : "by " + b.x.thread(0, 2));
    }

    private static void arrayOrder() {
        due.sentence("In this order: null: 1; not such an array (34: no array): 3; index: 5.");
        // 32, 33, 36, 37 with an index that is wrong, too.
        int[][] rest = {{32, 17}, {33, 0}, {36, 17}, {37, 0}};
        for (int[] r : rest) {
            int value = r[0] == 33 ? 1 : r[0] == 37 ? 45 : 0;
            int right = r[0] < 34 ? 31 : 35;
            int other = r[0] < 34 ? 35 : 31;
            due.text(r[0] + " of null", result(45, 0, 1, -1, value, 0, r[0], 0, r[1], 0, 40, 0), " by -1");
            due.text(r[0] + " of an object", result(26, 0, 1, -1, value, 0, r[0], 0, r[1], 0, 40, 0), " by -3");
            due.text(r[0] + " of the other kind",
                    result(1, 3, other, 0, 1, -1, value, 0, r[0], 0, r[1], 0, 40, 0), " by -3");
            due.text(r[0] + " of the other kind at a place",
                    result(1, 3, other, 0, 1, 0, value, 0, r[0], 0, r[1], 0, 40, 0), " by -3");
            due.text(r[0] + " of its kind", result(1, 3, right, 0, 1, -1, value, 0, r[0], 0, r[1], 0, 40, 0), " by -5");
        }
    }

    private static String atIndex(int op, int length, int index) {
        Bench b = bench();
        boolean ints = op < 34;
        boolean sets = op == 33 || op == 37;
        int m = b.main(0, 1, length, ints ? 31 : 35, 0, 47, 0, sets ? ints ? 1 : 45 : 0, 7, op, 0, sets ? 0 : 17, 0,
                1, 8, 46, 0, 40, 0);
        b.x.link(m);
        b.x.boot(9, 8000);
        b.x.input(index);
        b.x.run(20);
        return b.outs() + (b.x.thread(0, 2) == 0 ? "" : "by " + b.x.thread(0, 2));
    }

    private static void arrayIndexes() {
        due.sentence("32 takes R I, puts I (an array's int); 33 takes R I I; 36 takes R I, puts R; 37 takes R I R.");
        for (int op : new int[] {32, 33, 36, 37}) {
            for (int length : new int[] {1, 2, 200}) {
                due.text(op + " at 0 of " + length, atIndex(op, length, 0), "8");
                due.text(op + " at the last of " + length, atIndex(op, length, length - 1), "8");
                due.text(op + " at " + length + " of " + length, atIndex(op, length, length), "by -5");
                due.text(op + " at - 1 of " + length, atIndex(op, length, -1), "by -5");
                due.text(op + " at - 2^31 of " + length, atIndex(op, length, MIN), "by -5");
                due.text(op + " at 2^31 - 1 of " + length, atIndex(op, length, MAX), "by -5");
            }
            due.text(op + " at 0 of none", atIndex(op, 0, 0), "by -5");
        }
        due.text("the first and the last place hold their own", result(1, 200, 31, 0, 3, 0, 2, 0, 1, 0, 1, 5, 33, 0,
                2, 0, 1, 199, 1, 6, 33, 0, 2, 0, 1, 0, 32, 0, 46, 0, 2, 0, 1, 199, 32, 0, 46, 0,
                2, 0, 1, 1, 32, 0, 46, 0, 2, 0, 1, 198, 32, 0, 46, 0, 40, 0), "5 6 0 0");
        due.text("a place may get null, or the array itself", result(1, 1, 35, 0, 3, 0, 2, 0, 1, 0, 2, 0, 37, 0,
                2, 0, 1, 0, 36, 0, 34, 0, 46, 0, 2, 0, 1, 0, 45, 0, 37, 0, 2, 0, 1, 0, 36, 0, 34, 0, 40, 0), "1 by -1");
    }

    private static void lengths() {
        due.sentence("34 takes R, puts I: its length.");
        due.text("of null", result(45, 0, 34, 0, 46, 0, 40, 0), " by -1");
        due.text("of an object", result(26, 3, 34, 0, 46, 0, 40, 0), " by -3");
        due.text("of an object with fields", result(26, 1, 34, 0, 46, 0, 40, 0), " by -3");
        due.text("of no ints", result(1, 0, 31, 0, 34, 0, 46, 0, 40, 0), "0");
        due.text("of 200 references", result(1, 200, 35, 0, 34, 0, 46, 0, 40, 0), "200");
    }

    private static void staticCalls() {
        due.sentence("38 calls static method o: takes its arguments (the last one on top), puts what it returns.");
        Bench b = bench();
        int four = b.met(0, NONE, 4, 0, 1, 4, 2, 0, 46, 0, 2, 1, 46, 0, 2, 2, 46, 0, 2, 3, 41, 0);
        int none = b.met(0, NONE, 0, 0, 2, 0, 45, 0, 42, 0);
        int m = b.main(0, 1, 9, 1, 1, 1, 2, 1, 3, 1, 4, 38, four, 46, 0, 46, 0, 38, none, 23, 11, 40, 0,
                1, 5, 46, 0, 40, 0);
        due.text("four arguments, and none", b.result(m), "1 2 3 4 9 5");
        Bench c = bench();
        int takes = c.met(0, NONE, 4, 15, 0, 4, 40, 0);
        int n = c.main(0, 45, 0, 45, 0, 45, 0, 45, 0, 45, 0, 45, 0, 45, 0, 45, 0, 45, 0, 45, 0, 38, takes, 38, takes,
                24, 15, 40, 0, 0, 0, 1, 6, 46, 0, 40, 0);
        due.text("four references of ten values, twice", c.result(n), "6");
    }

    private static void argumentsThatAreReferences() {
        due.sentence("how many ARGUMENTS (0 .. 4), which of them are references (bits)");
        for (int references = 0; references < 16; references++) {
            Bench b = bench();
            StringBuilder want = new StringBuilder();
            int m = b.met(0, NONE, 4, references, 0, 4);
            for (int a = 0; a < 4; a++) {
                boolean reference = (references >> a & 1) == 1;
                b.x.code(2, a);
                b.x.code(reference ? 44 : 0, 3);
                b.x.code(46, 0);
                want.append(a == 0 ? "" : " ").append(reference ? 1 : 10 + a);
            }
            b.x.code(40, 0);
            int main = b.main(0);
            for (int a = 0; a < 4; a++) {
                boolean reference = (references >> a & 1) == 1;
                b.x.code(reference ? 26 : 1, reference ? 3 : 10 + a);
            }
            b.x.code(38, m);
            b.x.code(40, 0);
            due.text("references " + references, b.result(main), want.toString());
        }
    }

    private static void returns() {
        due.sentence("40, 41, 42 return nothing, I, R.");
        for (int returns = 0; returns <= 2; returns++) {
            Bench b = bench();
            // More values than it returns lie on its stack: they are gone.
            b.met(0, NONE, 0, 0, returns, 0, 1, 7, 26, 3, 1, 8, returns == 2 ? 17 : 0, 0, 40 + returns, 0);
            b.met(0, 4, 0, 0, returns, 1, 1, 7, 26, 3, 1, 8, returns == 2 ? 17 : 0, 0, 40 + returns, 0);
            int then = returns == 2 ? 44 : 0;
            for (int by = 38; by <= 39; by++) {
                int operand = by == 38 ? 0 : 4;
                int main = b.main(0, 1, 6, by == 39 ? 26 : 0, 0, by, operand, then, 3,
                        returns == 0 ? 0 : 46, 0, 46, 0, 40, 0);
                due.text("by " + by + " and " + (40 + returns), b.result(main),
                        returns == 0 ? "6" : returns == 1 ? "8 6" : "1 6");
            }
        }
    }

    private static void callsByName() {
        due.sentence("39 calls by name o: takes a receiver and above it the arguments. The receiver null: 1; "
                + "its class and those above have no method of the name (an array has none): 6.");
        Bench b = bench();
        b.met(0, 0, 4, 0, 1, 5, 2, 1, 46, 0, 2, 4, 41, 0);
        b.met(1, 7, 0, 0, 0, 1, 1, 70, 46, 0, 40, 0);
        due.text("four arguments", b.result(b.main(0, 26, 0, 1, 1, 1, 2, 1, 3, 1, 4, 39, 0, 46, 0, 40, 0)), "1 4");
        due.text("null under four arguments",
                b.result(b.main(0, 26, 0, 45, 0, 1, 1, 1, 2, 1, 3, 1, 4, 39, 0, 46, 0, 40, 0)), " by -1");
        due.text("null without arguments", b.result(b.main(0, 45, 0, 39, 7, 40, 0)), " by -1");
        due.text("the class has it", b.result(b.main(0, 26, 1, 39, 7, 40, 0)), "70");
        due.text("the class above has it", b.result(b.main(0, 26, 2, 39, 7, 40, 0)), "70");
        due.text("only the class below has it", b.result(b.main(0, 26, 1, 17, 0, 26, 0, 39, 7, 40, 0)), " by -6");
        due.text("no class has it", b.result(b.main(0, 26, 3, 39, 7, 40, 0)), " by -6");
        due.text("an array of ints", b.result(b.main(0, 26, 1, 17, 0, 1, 3, 31, 0, 39, 7, 40, 0)), " by -6");
        due.text("an array of references", b.result(b.main(0, 26, 1, 17, 0, 1, 3, 35, 0, 39, 7, 40, 0)), " by -6");
        due.text("an array under four arguments",
                b.result(b.main(0, 26, 0, 17, 0, 1, 3, 35, 0, 1, 1, 1, 2, 1, 3, 1, 4, 39, 0, 46, 0, 40, 0)), " by -6");
    }

    private static void throwing() {
        due.sentence("43 takes R and throws it (null: 1).");
        due.text("null", result(45, 0, 43, 0), " by -1");
        due.text("class 0", result(26, 0, 43, 0), " by 100");
        due.text("class 3", result(26, 3, 43, 0), " by 103");
        due.text("ints", result(1, 0, 31, 0, 43, 0), " by 110");
        due.text("references", result(1, 0, 35, 0, 43, 0), " by 110");
    }

    private static void classTests() {
        due.sentence("44 takes R, puts 1 if it is of class o or one below, else 0 (also of null, of an array).");
        due.text("of its class", result(26, 1, 44, 1, 46, 0, 40, 0), "1");
        due.text("of one below", result(26, 2, 44, 1, 46, 0, 40, 0), "1");
        due.text("of one two below", result(26, 2, 44, 0, 46, 0, 40, 0), "1");
        due.text("of one above", result(26, 0, 44, 1, 46, 0, 40, 0), "0");
        due.text("of another", result(26, 3, 44, 0, 46, 0, 40, 0), "0");
        due.text("of null", result(45, 0, 44, 0, 46, 0, 40, 0), "0");
        due.text("of ints", result(1, 1, 31, 0, 44, 0, 46, 0, 40, 0), "0");
        due.text("of references", result(1, 1, 35, 0, 44, 0, 46, 0, 40, 0), "0");
        Bench b = new Bench();
        for (int c = 0; c < 10; c++) {
            b.cls(c - 1, 0, 0);
        }
        due.text("nine above", b.result(b.main(0, 26, 9, 44, 0, 46, 0, 26, 0, 44, 9, 46, 0, 26, 9, 44, 9, 46, 0, 40, 0)),
                "1 0 1");
    }

    private static void inputs() {
        due.sentence("46 takes I: it goes OUT. 47 puts the next INPUT (0 if there is none).");
        Bench b = bench();
        int m = b.main(0, 47, 0, 46, 0, 47, 0, 46, 0, 47, 0, 46, 0, 40, 0);
        b.x.link(m);
        b.x.boot(9, 50);
        due.yes("- 2^31", b.x.input(MIN));
        due.yes("2^31 - 1", b.x.input(MAX));
        b.x.run(9);
        due.text("two, and then none", b.outs(), "-2147483648 2147483647 0");
        b.x.boot(9, 50);
        b.x.run(2);
        b.x.input(7);
        b.x.run(9);
        due.text("none, one, none", b.outs(), "0 7 0");
    }

    private static void statics() {
        due.sentence("52, 53 int static o (0 .. 7): puts it; takes I to it. 54, 55 so reference static o.");
        Bench b = bench();
        int m = b.main(0);
        for (int s = 0; s < 8; s++) {
            b.x.code(52, s);
            b.x.code(46, 0);
        }
        for (int s = 0; s < 8; s++) {
            b.x.code(1, 20 + s);
            b.x.code(53, s);
        }
        for (int s = 7; s >= 0; s--) {
            b.x.code(52, s);
            b.x.code(46, 0);
        }
        b.x.code(40, 0);
        due.text("all eight", b.result(m), "0 0 0 0 0 0 0 0 27 26 25 24 23 22 21 20");
        Bench c = bench();
        int n = c.main(0);
        for (int s = 0; s < 8; s++) {
            int[] code = {54, s, 44, 0, 46, 0, 1, 30 + s, 31, 0, 55, s};
            for (int k = 0; k < code.length; k += 2) {
                c.x.code(code[k], code[k + 1]);
            }
        }
        c.x.code(38, n + 1);
        c.x.code(40, 0);
        c.main(0);
        for (int s = 7; s >= 0; s--) {
            c.x.code(54, s);
            c.x.code(34, 0);
            c.x.code(46, 0);
        }
        c.x.code(40, 0);
        due.text("all eight references", c.result(n), "0 0 0 0 0 0 0 0 37 36 35 34 33 32 31 30");
        due.text("whole ints", result(1, 1, 1, 31, 13, 0, 53, 7, 52, 7, 46, 0, 40, 0), "-2147483648");
    }
}
