/** The boundary cases of what is WRONG: traps, operands, stacks, locals, and the order of looking. */
public final class WrongEdgesTest {
    private static final int BAD = PocketMachine.BAD, NONE = PocketMachine.NONE;
    private static final int MIN = Integer.MIN_VALUE, MAX = Integer.MAX_VALUE;
    /** What wrong() answers when it links. */
    private static final int FINE = -1;
    private static final Due due = new Due("wrong edges");

    public static void main(String[] args) {
        trapRanges();
        trapHandlers();
        trapKinds();
        constants();
        locals();
        targets();
        classes();
        fields();
        staticMethods();
        names();
        begins();
        returns();
        statics();
        emptyStacks();
        whatIsPut();
        atTheBeginning();
        moreThanTen();
        stillTen();
        unsetLocals();
        nothingBehind();
        otherStacks();
        localsUnlike();
        lookedAtAgain();
        lowestFirst();
        handlersFirst();
        ownHandler();
        rangeOfATrap();
        nothingIsLeftOfTheLastLook();
        due.end();
    }

    /** Classes 0 (2 ints, 6 references), 1 below it (6, 0), 2 (0, 0); the methods are 0 (name 5) and 1 (static). */
    private static Bench bench() {
        Bench b = new Bench();
        b.cls(BAD, 2, 6);
        b.cls(0, 6, 0);
        b.cls(BAD, 0, 0);
        b.met(0, 5, 1, 1, 1, 2, 1, 0, 41, 0);
        b.met(0, NONE, 0, 0, 2, 0, 45, 0, 42, 0);
        return b;
    }

    private static int wrong(Bench b, int m) {
        int answer = b.x.link(m);
        return answer > 0 ? FINE : answer == BAD ? MIN : -answer - 1000 - 100 * m;
    }

    /** The wrong instruction of a main method with 12 locals, or FINE. */
    private static int wrong(int... code) {
        Bench b = bench();
        return wrong(b, b.main(12, code));
    }

    /** Nothing .. nothing, a return, a handler and its return: instructions 0 .. count - 1. */
    private static int withTrap(int count, int from, int to, int handler, int what) {
        Bench b = bench();
        int m = b.main(0);
        for (int i = 0; i < count - 3; i++) {
            b.x.code(0, 0);
        }
        b.x.code(40, 0);
        b.x.code(17, 0);
        b.x.code(40, 0);
        b.x.trap(from, to, handler, what);
        return wrong(b, m);
    }

    private static void trapRanges() {
        due.sentence("a trap (99), but for 0 <= a < b, b at most the number of instructions");
        for (int n : new int[] {4, 60}) {
            due.is("0, 1", withTrap(n, 0, 1, n - 2, -1), FINE);
            due.is("- 1, 1", withTrap(n, -1, 1, n - 2, -1), 99);
            due.is("- 2^31, 1", withTrap(n, MIN, 1, n - 2, -1), 99);
            due.is("0, 0", withTrap(n, 0, 0, n - 2, -1), 99);
            due.is("1, 0", withTrap(n, 1, 0, n - 2, -1), 99);
            due.is("0, - 2^31", withTrap(n, 0, MIN, n - 2, -1), 99);
            due.is("the last one", withTrap(n, n - 1, n, n - 2, -1), FINE);
            due.is("behind the last one", withTrap(n, n, n, n - 2, -1), 99);
            due.is("up to one too many", withTrap(n, n - 1, n + 1, n - 2, -1), 99);
            due.is("from behind the last one", withTrap(n, n, n + 1, n - 2, -1), 99);
            due.is("up to 2^31 - 1", withTrap(n, 0, MAX, n - 2, -1), 99);
        }
    }

    private static void trapHandlers() {
        due.sentence("the handler one of them");
        // A trap on instructions that are never come to may have any handler that there is.
        due.is("the first", withTrap(4, 3, 4, 0, -1), FINE);
        due.is("the last", withTrap(4, 0, 1, 3, -1), FINE);
        due.is("none below", withTrap(4, 0, 1, -1, -1), 99);
        due.is("none above", withTrap(4, 0, 1, 4, -1), 99);
        due.is("- 2^31", withTrap(4, 0, 1, MIN, -1), 99);
        due.is("2^31 - 1", withTrap(4, 0, 1, MAX, -1), 99);
        due.is("the 60th of 60", withTrap(60, 0, 1, 59, -1), FINE);
        due.is("a 61st", withTrap(60, 0, 1, 60, -1), 99);
    }

    private static void trapKinds() {
        due.sentence("WHAT a class that there is or - 10 .. - 1");
        for (int what : new int[] {0, 2, -1, -2, -9, -10}) {
            due.is("" + what, withTrap(4, 0, 1, 2, what), FINE);
        }
        for (int what : new int[] {3, 9, 10, -11, MIN, MAX}) {
            due.is("" + what, withTrap(4, 0, 1, 2, what), 99);
        }
        Bench b = bench();
        int m = b.main(0, 17, 0);
        for (int t = 0; t < 6; t++) {
            b.x.trap(0, 1, 0, t == 5 ? -11 : -10);
        }
        due.is("the sixth of six, before a wrong instruction", wrong(b, m), 99);
    }

    private static void constants() {
        due.sentence("1: another int");
        due.is("- 32,768", wrong(1, -32768, 46, 0, 40, 0), FINE);
        due.is("- 32,769", wrong(1, -32769, 46, 0, 40, 0), 0);
        due.is("32,767", wrong(1, 32767, 46, 0, 40, 0), FINE);
        due.is("32,768", wrong(1, 32768, 46, 0, 40, 0), 0);
        due.is("- 2^31", wrong(1, MIN, 46, 0, 40, 0), 0);
        due.is("2^31 - 1", wrong(1, MAX, 46, 0, 40, 0), 0);
    }

    private static void locals() {
        due.sentence("the stack has not what it takes, or it would have more than 10 values, or it puts a local that is not set");
        for (int n : new int[] {0, 1, 12}) {
            for (int l : new int[] {-1, n - 1, n, MIN, MAX}) {
                Bench b = bench();
                int to = b.main(n, 1, 7, 3, l, 40, 0);
                due.is("3 " + l + " of " + n + " locals", wrong(b, to), l >= 0 && l < n ? FINE : 1);
                Bench c = bench();
                int from = c.main(n, 1, 7, n > 0 ? 3 : 17, Math.max(0, n - 1), 2, l, 46, 0, 40, 0);
                due.is("2 " + l + " of " + n + " locals", wrong(c, from), l >= 0 && l < n ? FINE : 2);
            }
        }
    }

    private static void targets() {
        due.sentence("then its target (19 .. 25) is come to");
        for (int op = 19; op <= 25; op++) {
            int put = op == 23 || op == 24 ? 45 : 1;
            int before = op == 19 ? 0 : op >= 24 ? 2 : 1;
            for (int n : new int[] {before + 2, 60}) {
                for (int target : new int[] {-1, 0, n - 1, n, MIN, MAX}) {
                    Bench b = bench();
                    int m = b.main(0);
                    for (int i = 0; i < before; i++) {
                        b.x.code(put, 0);
                    }
                    b.x.code(op, target);
                    for (int i = before + 1; i < n - 1; i++) {
                        b.x.code(0, 0);
                    }
                    b.x.code(40, 0);
                    boolean there = target >= 0 && target < n;
                    due.is(op + " to " + target + " of " + n, wrong(b, m), there ? FINE : before);
                }
            }
        }
    }

    private static void classes() {
        due.sentence("26 puts a new object of class o");
        for (int c : new int[] {-1, 0, 2, 3, 9, 10, MIN, MAX}) {
            int want = c == 0 || c == 2 ? FINE : 1;
            due.is("26 " + c, wrong(0, 0, 26, c, 43, 0), want);
            due.is("44 " + c, wrong(45, 0, 44, c, 46, 0, 40, 0), want);
        }
        Bench ten = new Bench();
        for (int c = 0; c < 10; c++) {
            ten.cls(BAD, 0, 0);
        }
        due.is("26 9 of ten", wrong(ten, ten.main(0, 26, 9, 44, 9, 46, 0, 40, 0)), FINE);
        due.is("26 10 of ten", wrong(ten, ten.main(0, 26, 10, 43, 0)), 0);
        due.is("44 10 of ten", wrong(ten, ten.main(0, 45, 0, 44, 10, 46, 0, 40, 0)), 1);
    }

    private static void fields() {
        due.sentence("27, 28: int field of class o / 8, its own number o % 8");
        int[] intFields = {0, 1, 8, 13};
        int[] noIntFields = {-1, -8, -16, 2, 6, 7, 14, 15, 16, 17, 24, 80, MIN, MAX};
        for (int o : intFields) {
            due.is("27 " + o, wrong(45, 0, 27, o, 46, 0, 40, 0), FINE);
            due.is("28 " + o, wrong(45, 0, 1, 0, 28, o, 40, 0), FINE);
        }
        for (int o : noIntFields) {
            due.is("27 " + o, wrong(45, 0, 27, o, 46, 0, 40, 0), 1);
            due.is("28 " + o, wrong(45, 0, 1, 0, 28, o, 40, 0), 2);
        }
        due.sentence("29, 30 so for reference fields (R, puts R; R R).");
        int[] refFields = {0, 5};
        int[] noRefFields = {-1, -8, 6, 7, 8, 13, 15, 16, 24, 80, MIN, MAX};
        for (int o : refFields) {
            due.is("29 " + o, wrong(45, 0, 29, o, 43, 0), FINE);
            due.is("30 " + o, wrong(45, 0, 45, 0, 30, o, 40, 0), FINE);
        }
        for (int o : noRefFields) {
            due.is("29 " + o, wrong(45, 0, 29, o, 43, 0), 1);
            due.is("30 " + o, wrong(45, 0, 45, 0, 30, o, 40, 0), 2);
        }
    }

    private static void staticMethods() {
        due.sentence("38 calls static method o");
        // The main method that asks is method 2, so 2 is the last one that there is.
        due.is("38 1", wrong(38, 1, 43, 0), FINE);
        due.is("38 of itself", wrong(38, 2, 40, 0), FINE);
        due.is("38 of one with a name", wrong(45, 0, 45, 0, 38, 0, 46, 0, 40, 0), 2);
        for (int o : new int[] {-1, NONE, 3, 23, 24, MIN, MAX}) {
            due.is("38 " + o, wrong(38, o, 40, 0), 0);
        }
    }

    private static void names() {
        due.sentence("a name that no method has");
        due.is("39 5", wrong(45, 0, 45, 0, 39, 5, 46, 0, 40, 0), FINE);
        for (int o : new int[] {-1, NONE, 0, 4, 6, 7, 8, MIN, MAX}) {
            due.is("39 " + o, wrong(45, 0, 45, 0, 39, o, 46, 0, 40, 0), 2);
        }
        Bench b = new Bench();
        b.cls(BAD, 0, 0);
        b.met(0, 0, 0, 0, 0, 1, 40, 0);
        b.met(0, 7, 0, 0, 0, 1, 40, 0);
        due.is("the first name", wrong(b, b.main(0, 45, 0, 39, 0, 40, 0)), FINE);
        due.is("the last name", wrong(b, b.main(0, 45, 0, 39, 7, 40, 0)), FINE);
        due.is("behind the last name", wrong(b, b.main(0, 45, 0, 39, 8, 40, 0)), 1);
    }

    private static void begins() {
        due.sentence("48: no method has name 0, or those take arguments");
        due.is("no method has name 0", wrong(45, 0, 48, 0, 40, 0), 1);
        for (int a = 0; a <= 4; a++) {
            for (int returns = 0; returns <= 2; returns++) {
                Bench b = new Bench();
                b.cls(BAD, 0, 0);
                b.met(0, 0, a, 0, returns, 5, 40, 0);
                due.is(a + " arguments", wrong(b, b.main(0, 45, 0, 48, 0, 40, 0)), a == 0 ? FINE : 1);
            }
        }
        Bench d = new Bench();
        d.cls(BAD, 0, 0);
        d.met(0, 0, 0, 0, 0, 1, 40, 0);
        due.is("48 of an int", wrong(d, d.main(0, 1, 0, 48, 0, 40, 0)), 1);
        due.is("48 of nothing", wrong(d, d.main(0, 48, 0, 40, 0)), 0);
        due.is("48 puts nothing", wrong(d, d.main(0, 45, 0, 48, 0, 17, 0, 40, 0)), 2);
        Bench c = new Bench();
        c.cls(BAD, 0, 0);
        c.met(0, 1, 0, 0, 0, 1, 40, 0);
        due.is("name 1 is not enough", wrong(c, c.main(0, 45, 0, 48, 1, 40, 0)), 1);
    }

    private static void returns() {
        due.sentence("40 .. 42: not what the method returns");
        for (int returns = 0; returns <= 2; returns++) {
            for (int op = 40; op <= 42; op++) {
                Bench b = bench();
                int m = b.met(0, NONE, 0, 0, returns, 0, op == 41 ? 1 : 45, 0, op, 0);
                due.is(op + " where " + returns + " is returned", wrong(b, m), op - 40 == returns ? FINE : 1);
            }
        }
        due.is("41 of a reference", wrongOfInt(45, 0, 41, 0), 1);
        due.is("41 of nothing", wrongOfInt(41, 0), 0);
        due.is("41 with values under it", wrongOfInt(45, 0, 1, 0, 41, 0), FINE);
        due.is("40 with values left", wrong(45, 0, 1, 0, 40, 0), FINE);
        due.is("42 of an int", wrongOfRef(1, 0, 42, 0), 1);
        due.is("42 of nothing", wrongOfRef(42, 0), 0);
        due.is("42 with values under it", wrongOfRef(1, 0, 45, 0, 42, 0), FINE);
    }

    private static int wrongOfRef(int... code) {
        Bench b = bench();
        return wrong(b, b.met(0, NONE, 0, 0, 2, 0, code));
    }

    private static int wrongOfInt(int... code) {
        Bench b = bench();
        return wrong(b, b.met(0, NONE, 0, 0, 1, 0, code));
    }

    private static void statics() {
        due.sentence("52, 53 int static o (0 .. 7): puts it; takes I to it. 54, 55 so reference static o.");
        for (int o : new int[] {-1, 0, 7, 8, MIN, MAX}) {
            int want = o == 0 || o == 7 ? FINE : 1;
            due.is("52 " + o, wrong(0, 0, 52, o, 46, 0, 40, 0), want);
            due.is("53 " + o, wrong(1, 0, 53, o, 40, 0), want);
            due.is("54 " + o, wrong(0, 0, 54, o, 43, 0), want);
            due.is("55 " + o, wrong(45, 0, 55, o, 40, 0), want);
        }
    }

    /** What an instruction takes, and an operand with which it is possible behind so many puts. */
    private static final String[] TAKES = {
        "3:X", "4:II", "5:II", "6:II", "7:II", "8:II", "9:I", "10:II", "11:II", "12:II", "13:II", "14:II", "15:II",
        "16:X", "17:X", "18:XX", "20:I", "21:I", "22:I", "23:R", "24:RR", "25:II", "27:R", "28:RI", "29:R", "30:RR",
        "31:I", "32:RI", "33:RII", "34:R", "35:I", "36:RI", "37:RIR", "39:RR", "43:R", "44:R", "46:I", "49:R", "50:R",
        "53:I", "55:R"};

    private static void emptyStacks() {
        due.sentence("An instruction takes values from a stack, and puts others there");
        for (String row : TAKES) {
            int op = Integer.parseInt(row.substring(0, row.indexOf(':')));
            String kinds = row.substring(row.indexOf(':') + 1).replace('X', 'I');
            int operand = op == 39 ? 5 : 0;
            for (int missing = 0; missing <= kinds.length(); missing++) {
                String there = kinds.substring(missing);
                int got = behind(there, op, operand);
                due.is(op + " with " + there, got, missing == 0 ? FINE : there.length());
            }
            for (int i = 0; i < kinds.length() && row.indexOf('X') < 0; i++) {
                char other = kinds.charAt(i) == 'I' ? 'R' : 'I';
                String spoilt = kinds.substring(0, i) + other + kinds.substring(i + 1);
                due.is(op + " with " + spoilt, behind(spoilt, op, operand), spoilt.length());
            }
            due.is(op + " with others under it", behind("IRRI" + kinds, op, operand), FINE);
        }
    }

    /** Puts these, does the instruction (19 .. 25 to the return behind it), and returns. */
    private static int behind(String kinds, int op, int operand) {
        int[] code = new int[2 * kinds.length() + 4];
        for (int i = 0; i < kinds.length(); i++) {
            code[2 * i] = kinds.charAt(i) == 'I' ? 1 : 45;
        }
        code[2 * kinds.length()] = op;
        code[2 * kinds.length() + 1] = op >= 19 && op <= 25 ? kinds.length() + 1 : operand;
        code[2 * kinds.length() + 2] = 40;
        return wrong(code);
    }

    /** What each instruction leaves of the values that it takes, the last one on top. */
    private static final String[] LEAVES = {
        "0::", "1::I", "3:I:", "4:II:I", "5:II:I", "6:II:I", "7:II:I", "8:II:I", "9:I:I", "10:II:I", "11:II:I", "12:II:I",
        "13:II:I", "14:II:I", "15:II:I", "16:I:II", "16:R:RR", "17:I:", "17:R:", "18:IR:RI", "18:RI:IR", "20:I:", "21:I:",
        "22:I:", "23:R:", "24:RR:", "25:II:", "26::R", "27:R:I", "28:RI:", "29:R:R", "30:RR:", "31:I:R", "32:RI:I",
        "33:RII:", "34:R:I", "35:I:R", "36:RI:R", "37:RIR:", "38::R", "39:RR:I", "44:R:I", "45::R", "46:I:", "47::I",
        "49:R:", "50:R:", "51::", "52::I", "53:I:", "54::R", "55:R:"};

    private static void whatIsPut() {
        due.sentence("(last ones named on top; I an int, R a reference, X either)");
        for (String row : LEAVES) {
            String[] parts = row.split(":", -1);
            int op = Integer.parseInt(parts[0]);
            int operand = op == 39 ? 5 : op == 38 ? 1 : 0;
            String right = parts[2];
            due.is(row, leaves(parts[1], op, operand, right), FINE);
            int at = parts[1].length() + 1;
            due.is(row + " and no more", leaves(parts[1], op, operand, "I" + right), at + right.length());
            for (int i = 0; i < right.length(); i++) {
                char other = right.charAt(i) == 'I' ? 'R' : 'I';
                String spoilt = right.substring(0, i) + other + right.substring(i + 1);
                due.is(row + " and not " + spoilt, leaves(parts[1], op, operand, spoilt), at + right.length() - 1 - i);
            }
        }
    }

    /** Puts these, does the instruction, and takes those from the top on by 46 and 49. */
    private static int leaves(String kinds, int op, int operand, String then) {
        int[] code = new int[2 * (kinds.length() + then.length()) + 4];
        int at = 0;
        for (int i = 0; i < kinds.length(); i++, at += 2) {
            code[at] = kinds.charAt(i) == 'I' ? 1 : 45;
        }
        code[at] = op;
        code[at + 1] = op >= 19 && op <= 25 ? at / 2 + 1 : operand;
        at += 2;
        for (int i = then.length() - 1; i >= 0; i--, at += 2) {
            code[at] = then.charAt(i) == 'I' ? 46 : 49;
        }
        code[at] = 40;
        return wrong(code);
    }

    private static void atTheBeginning() {
        due.sentence("from instruction 0 on (stack empty; what the method takes in its first locals, others not set)");
        due.is("a stack that is empty", wrong(17, 0, 40, 0), 0);
        due.is("a local of a method that takes nothing", wrong(2, 0, 46, 0, 40, 0), 0);
        // Four arguments, of which the second and the fourth are references.
        for (int name : new int[] {NONE, 4}) {
            int first = name == NONE ? 0 : 1;
            for (int l = 0; l <= 12; l++) {
                boolean isRef = l < first || l == first + 1 || l == first + 3;
                boolean isSet = l < first + 4;
                for (int use : new int[] {46, 49}) {
                    Bench b = bench();
                    int m = b.met(0, name, 4, 10, 0, 12, 2, l, use, 0, 40, 0);
                    b.main(0, 26, 0, 1, 0, 45, 0, 1, 0, 45, 0, name == NONE ? 38 : 39, name == NONE ? m : name, 40, 0);
                    int want = !isSet ? 0 : isRef == (use == 49) ? FINE : 1;
                    int answer = b.x.link(m + 1);
                    due.is("local " + l + " for " + use, answer > 0 ? FINE : -answer - 1000 - 100 * m, want);
                }
            }
        }
    }

    /** So many nulls, then the rest. */
    private static int behindNulls(int count, int... rest) {
        int[] code = new int[2 * count + rest.length];
        for (int i = 0; i < count; i++) {
            code[2 * i] = 45;
        }
        System.arraycopy(rest, 0, code, 2 * count, rest.length);
        return wrong(code);
    }

    private static void moreThanTen() {
        due.sentence("it would have more than 10 values");
        // What puts one more than it takes: 2 needs a local, so it is not in this row.
        int[][] rows = {{1, 0}, {16, 0}, {26, 0}, {38, 1}, {45, 0}, {47, 0}, {52, 0}, {54, 0}};
        for (int[] row : rows) {
            due.is(row[0] + " as the tenth", behindNulls(9, row[0], row[1], 40, 0), FINE);
            due.is(row[0] + " as the eleventh", behindNulls(10, row[0], row[1], 40, 0), 10);
        }
        due.is("2 as the tenth", behindNulls(9, 45, 0, 3, 11, 2, 11, 40, 0), FINE);
        due.is("2 as the eleventh", behindNulls(10, 3, 11, 45, 0, 2, 11, 40, 0), 12);
    }

    private static void stillTen() {
        due.sentence("it would have more than 10 values");
        due.is("18", behindNulls(10, 18, 0, 40, 0), FINE);
        due.is("44 takes one and puts one", behindNulls(10, 44, 0, 40, 0), FINE);
        due.is("29 takes one and puts one", behindNulls(10, 29, 0, 40, 0), FINE);
        due.is("27 takes one and puts one", behindNulls(10, 27, 0, 40, 0), FINE);
        due.is("34 takes one and puts one", behindNulls(10, 34, 0, 40, 0), FINE);
        due.is("9 takes one and puts one", behindNulls(9, 1, 0, 9, 0, 40, 0), FINE);
        due.is("31 takes one and puts one", behindNulls(9, 1, 0, 31, 0, 40, 0), FINE);
        due.is("35 takes one and puts one", behindNulls(9, 1, 0, 35, 0, 40, 0), FINE);
        due.is("39 takes two and puts one", behindNulls(10, 39, 5, 40, 0), FINE);
        due.is("0 with ten", behindNulls(10, 0, 0, 40, 0), FINE);
        due.is("19 with ten", behindNulls(10, 19, 11, 40, 0), FINE);
    }

    private static void unsetLocals() {
        due.sentence("it puts a local that is not set");
        due.is("the first", wrong(2, 0, 17, 0, 40, 0), 0);
        due.is("the last", wrong(2, 11, 17, 0, 40, 0), 0);
        due.is("the one beside it is set", wrong(1, 0, 3, 10, 2, 11, 17, 0, 40, 0), 2);
        due.is("it is set", wrong(1, 0, 3, 11, 2, 11, 17, 0, 40, 0), FINE);
        due.is("set on one way only", wrong(47, 0, 20, 4, 45, 0, 3, 0, 2, 0, 43, 0), 4);
        due.is("set on both", wrong(45, 0, 47, 0, 20, 5, 17, 0, 45, 0, 3, 0, 2, 0, 43, 0), FINE);
    }

    private static void nothingBehind() {
        due.sentence("then (not behind 19, 40 .. 43) the next instruction: if there is none, it is wrong.");
        due.is("19", wrong(19, 0), FINE);
        due.is("40", wrong(40, 0), FINE);
        due.is("41", wrongOfInt(1, 0, 41, 0), FINE);
        Bench b = bench();
        due.is("42", wrong(b, b.met(0, NONE, 0, 0, 2, 0, 45, 0, 42, 0)), FINE);
        due.is("43", wrong(45, 0, 43, 0), FINE);
        for (int op : new int[] {0, 39, 44, 47, 51}) {
            int operand = op == 39 ? 5 : 0;
            due.is(op + " alone", wrong(45, 0, 45, 0, op, operand), 2);
            due.is(op + " with one behind it", wrong(45, 0, 45, 0, op, operand, 40, 0), FINE);
        }
        for (int op = 20; op <= 25; op++) {
            int put = op == 23 || op == 24 ? 45 : 1;
            due.is(op + " alone", op < 24 ? wrong(put, 0, op, 0) : wrong(put, 0, put, 0, op, 0), op < 24 ? 1 : 2);
        }
        int[] sixty = new int[120];
        due.is("the 60th", wrong(sixty), 59);
        sixty[118] = 40;
        due.is("the 60th is a return", wrong(sixty), FINE);
    }

    private static void otherStacks() {
        due.sentence("later the stack must have the same ones (else that instruction is wrong)");
        due.is("the same", wrong(45, 0, 47, 0, 20, 4, 0, 0, 43, 0), FINE);
        due.is("one more", wrong(45, 0, 47, 0, 20, 4, 45, 0, 43, 0), 4);
        due.is("one less", wrong(45, 0, 45, 0, 47, 0, 20, 5, 17, 0, 40, 0), 5);
        due.is("another kind", wrong(45, 0, 47, 0, 20, 5, 17, 0, 1, 0, 40, 0), 5);
        due.is("another kind under the same one", wrong(45, 0, 1, 0, 47, 0, 20, 5, 18, 0, 40, 0), 5);
        due.is("two of the other order", wrong(1, 0, 45, 0, 47, 0, 20, 6, 0, 0, 18, 0, 40, 0), 6);
        due.is("ten the same", wrong(45, 0, 45, 0, 45, 0, 45, 0, 45, 0, 45, 0, 45, 0, 45, 0, 45, 0, 47, 0, 20, 12,
                0, 0, 40, 0), FINE);
        due.is("a way back", wrong(47, 0, 19, 0), 0);
    }

    private static void localsUnlike() {
        due.sentence("locals that are set there and unlike are not set there any more: then it is to be looked at again");
        due.is("an int and a reference in the last local",
                wrong(47, 0, 20, 5, 1, 0, 3, 11, 19, 7, 45, 0, 3, 11, 2, 11, 17, 0, 40, 0), 7);
        due.is("two ints", wrong(47, 0, 20, 5, 1, 0, 3, 11, 19, 7, 1, 1, 3, 11, 2, 11, 17, 0, 40, 0), FINE);
        due.is("it is not wrong as long as no one puts it",
                wrong(47, 0, 20, 5, 1, 0, 3, 11, 19, 7, 45, 0, 3, 11, 0, 0, 40, 0), FINE);
        due.is("set first, not set later", wrong(47, 0, 20, 4, 1, 0, 3, 0, 2, 0, 17, 0, 40, 0), 4);
        due.is("not set first, set later", wrong(47, 0, 3, 1, 19, 5, 2, 0, 40, 0, 47, 0, 20, 3, 1, 0, 3, 0, 19, 3), 3);
        due.is("unlike only on the way back", wrong(1, 0, 3, 0, 2, 0, 46, 0, 45, 0, 3, 0, 19, 2), 2);
        due.is("alike on the way back", wrong(1, 0, 3, 0, 2, 0, 46, 0, 1, 1, 3, 0, 19, 2), FINE);
    }

    /**
     * A method with a receiver and four int arguments: 36 instructions, then for each local a piece that makes it
     * unlike and goes back to the first, so that all of them are looked at again and again.
     */
    private static int sinking(int at, int put) {
        Bench b = bench();
        int m = b.met(0, 1, 4, 0, 0, 5);
        for (int i = 0; i < 36; i++) {
            b.x.code(i == at ? 2 : i == at + 1 ? 17 : 0, put);
        }
        for (int l = 4; l >= 0; l--) {
            b.x.code(l == 0 ? 1 : 45, 0);
            b.x.code(3, l);
            b.x.code(47, 0);
            b.x.code(20, 0);
        }
        b.x.code(40, 0);
        int main = b.main(0, 26, 0, 1, 0, 1, 0, 1, 0, 1, 0, 39, 1, 40, 0);
        int answer = b.x.link(main);
        return answer > 0 ? FINE : -answer - 1000 - 100 * m;
    }

    private static void lookedAtAgain() {
        due.sentence("always the lowest one is looked at that was come to and not looked at since");
        due.is("all five are unlike in the end, and no one is put", sinking(-9, 0), FINE);
        for (int l = 0; l < 5; l++) {
            due.is("local " + l + " is put by the first one", sinking(0, l), 0);
            due.is("local " + l + " is put by the 35th", sinking(34, l), 34);
        }
        // Each of twelve locals is made unlike in turn; the local that is put is the one that is made so last.
        int[] code = new int[2 * 55];
        int at = 0;
        for (int l = 0; l < 12; l++) {
            code[at] = 45;
            code[at + 2] = 3;
            code[at + 3] = l;
            at += 4;
        }
        for (int l = 0; l < 6; l++) {
            int[] piece = {1, 0, 3, 6 + l, 47, 0, 20, 24};
            System.arraycopy(piece, 0, code, at, 8);
            at += 8;
        }
        code[at] = 40;
        due.is("six of twelve become unlike", wrong(code), FINE);
        code[at] = 2;
        code[at + 1] = 5;
        code[at + 2] = 43;
        due.is("the sixth stays a reference", wrong(code), FINE);
        code[at + 1] = 11;
        code[at + 2] = 46;
        code[at + 4] = 40;
        due.is("the twelfth is an int on the straight way", wrong(code), FINE);
    }

    private static void lowestFirst() {
        due.sentence("always the lowest one is looked at that was come to and not looked at since");
        due.is("the next one before a target above", wrong(47, 0, 20, 4, 17, 0, 40, 0, 17, 0, 40, 0), 2);
        due.is("a target below before the next one", wrong(19, 3, 17, 0, 40, 0, 47, 0, 20, 1, 17, 0, 40, 0), 1);
        due.is("the target is come to before the next one",
                wrong(45, 0, 47, 0, 20, 0, 17, 0, 17, 0, 40, 0), 0);
        due.is("what is never come to is not looked at", wrong(19, 2, 17, 99, 40, 0), FINE);
    }

    private static void handlersFirst() {
        due.sentence("first the handlers of its traps, in order, are COME TO with these locals and one R on the stack; "
                + "then it is wrong if its operand is not possible");
        Bench b = bench();
        int m = b.main(1, 0, 0, 17, 0, 40, 0);
        b.x.trap(1, 2, 0, -1);
        due.is("a handler that was come to otherwise comes before a wrong instruction", wrong(b, m), 0);
        Bench c = bench();
        int n = c.main(1, 47, 0, 20, 4, 0, 0, 17, 0, 40, 0);
        c.x.trap(2, 3, 4, -1);
        c.x.trap(2, 3, 0, -1);
        due.is("of two handlers the first", wrong(c, n), 4);
        Bench d = bench();
        int o = d.main(1, 47, 0, 20, 4, 0, 0, 17, 0, 40, 0);
        d.x.trap(2, 3, 0, -1);
        d.x.trap(2, 3, 4, -1);
        due.is("in their order", wrong(d, o), 0);
        Bench e = bench();
        int p = e.main(1, 0, 0, 1, 0, 3, 0, 40, 0, 17, 0, 2, 0, 46, 0, 40, 0);
        e.x.trap(2, 3, 4, -1);
        due.is("with the locals before the instruction", wrong(e, p), 5);
        Bench f = bench();
        int q = f.main(1, 0, 0, 1, 0, 3, 0, 40, 0, 17, 0, 2, 0, 46, 0, 40, 0);
        f.x.trap(3, 4, 4, -1);
        due.is("of the next one with the local", wrong(f, q), FINE);
        Bench g = bench();
        int r = g.main(1, 1, 0, 3, 0, 45, 0, 3, 0, 40, 0, 17, 0, 2, 0, 17, 0, 40, 0);
        g.x.trap(2, 5, 5, -1);
        due.is("of several ones with what is alike", wrong(g, r), 6);
    }

    private static void ownHandler() {
        due.sentence("COME TO for the first time, an instruction gets these kinds");
        Bench b = bench();
        int m = b.main(0, 45, 0, 17, 0, 40, 0);
        b.x.trap(1, 2, 1, -1);
        due.is("an instruction with one R that is its own handler", wrong(b, m), FINE);
        Bench c = bench();
        int n = c.main(0, 1, 0, 17, 0, 40, 0);
        c.x.trap(1, 2, 1, -1);
        due.is("one with an int", wrong(c, n), 1);
        Bench d = bench();
        int o = d.main(0, 45, 0, 45, 0, 17, 0, 17, 0, 40, 0);
        d.x.trap(2, 3, 2, -1);
        due.is("one with two", wrong(d, o), 2);
        Bench e = bench();
        int p = e.main(0, 0, 0, 40, 0);
        e.x.trap(0, 1, 0, -1);
        due.is("the first one", wrong(e, p), 0);
        Bench f = bench();
        int q = f.main(0, 40, 0, 17, 0, 40, 0);
        f.x.trap(1, 3, 0, -1);
        due.is("a trap of instructions that no one comes to", wrong(f, q), FINE);
    }

    private static void rangeOfATrap() {
        due.sentence("first the handlers of its traps, in order, are COME TO");
        // The handler is wrong if it is come to at all: 2 of a local that is not set.
        for (int from = 0; from < 4; from++) {
            for (int to = from + 1; to <= 4; to++) {
                Bench b = bench();
                int m = b.main(1, 19, 2, 0, 0, 0, 0, 40, 0, 2, 0, 40, 0);
                b.x.trap(from, to, 4, -1);
                // Of the first four, 0, 2 and 3 are looked at, 1 is not.
                boolean looked = from != 1 || to > 2;
                due.is("from " + from + " to " + to, wrong(b, m), looked ? 4 : FINE);
            }
        }
        Bench c = bench();
        int n = c.main(1, 1, 0, 3, 0, 0, 0, 45, 0, 3, 0, 40, 0, 17, 0, 2, 0, 46, 0, 40, 0);
        c.x.trap(2, 5, 6, -1);
        due.is("up to before the one behind which the local is another", wrong(c, n), FINE);
        Bench d = bench();
        int o = d.main(1, 1, 0, 3, 0, 0, 0, 45, 0, 3, 0, 40, 0, 17, 0, 2, 0, 46, 0, 40, 0);
        d.x.trap(2, 6, 6, -1);
        due.is("and with it", wrong(d, o), 7);
        Bench e = bench();
        int p = e.main(1, 1, 0, 3, 0, 0, 0, 40, 0, 17, 0, 2, 0, 46, 0, 40, 0);
        e.x.trap(2, 4, 4, -1);
        due.is("from the one at which the local is set", wrong(e, p), FINE);
        Bench f = bench();
        int q = f.main(1, 1, 0, 3, 0, 0, 0, 40, 0, 17, 0, 2, 0, 46, 0, 40, 0);
        f.x.trap(1, 4, 4, -1);
        due.is("from the one that sets it", wrong(f, q), 5);
    }

    private static void nothingIsLeftOfTheLastLook() {
        due.sentence("from instruction 0 on (stack empty; what the method takes in its first locals, others not set)");
        Bench b = bench();
        // 2 is wrong while 5 waits to be looked at.
        int spoilt = b.main(12, 47, 0, 20, 5, 4, 0, 0, 0, 0, 0, 40, 0);
        int small = b.main(12, 0, 0, 40, 0);
        due.is("a wrong one", wrong(b, spoilt), 2);
        due.is("a shorter one behind it", wrong(b, small), FINE);
        due.is("a wrong one again", wrong(b, spoilt), 2);
        int sets = b.main(12, 1, 0, 3, 0, 1, 0, 3, 11, 38, 5 + 1, 40, 0);
        due.is("which method that is", sets, 4);
        int puts = b.main(12, 2, 0, 17, 0, 40, 0);
        due.is("the local that another method has set", wrong(b, puts), 0);
        b.main(12, 2, 11, 17, 0, 40, 0);
        due.is("when that is looked at before it", b.x.link(sets), -1000 - 100 * 6);
        int leaves = b.main(12, 45, 0, 45, 0, 45, 0, 38, 8, 40, 0);
        due.is("which method that is", leaves, 7);
        b.main(12, 17, 0, 40, 0);
        due.is("values that another method left", b.x.link(leaves), -1000 - 100 * 8);
    }
}
