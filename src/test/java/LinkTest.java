/** Promise 6: link, with what is reached, and what is wrong in which order. */
public final class LinkTest {
    private static final int BAD = PocketMachine.BAD, NONE = PocketMachine.NONE;
    private static final Due due = new Due("link");

    public static void main(String[] args) {
        mains();
        operands();
        whatInstructionsTake();
        stackOfTen();
        locals();
        ends();
        traps();
        orderOfLooking();
        merging();
        handlersComeFirst();
        onlyReachedMethodsCount();
        namesReach();
        whatWasLinkedStays();
        due.end();
    }

    private static Bench bench() {
        Bench b = new Bench();
        b.cls(BAD, 2, 1);
        b.cls(0, 1, 3);
        return b;
    }

    /** Links a main method with 3 locals, and answers the wrong instruction, or 0 and more if it links. */
    private static int wrong(int... code) {
        Bench b = bench();
        b.met(0, 5, 1, 1, 1, 2, 1, 0, 41, 0);
        b.met(0, NONE, 2, 2, 2, 2, 45, 0, 42, 0);
        int m = b.main(3, code);
        int answer = b.x.link(m);
        return answer <= -1000 ? answer + 1000 + 100 * m : answer;
    }

    private static void mains() {
        Bench b = bench();
        b.met(0, 1, 0, 0, 0, 1, 40, 0);
        b.met(0, NONE, 1, 0, 0, 1, 40, 0);
        b.met(0, NONE, 0, 0, 1, 0, 1, 1, 41, 0);
        due.is("link(- 1)", b.x.link(-1), BAD);
        due.is("link(3)", b.x.link(3), BAD);
        due.is("a method with a name", b.x.link(0), BAD);
        due.is("a method with an argument", b.x.link(1), BAD);
        due.is("one that returns an int", b.x.link(2), 9 + 9 + 3);
        Bench c = bench();
        c.main(0, 40, 0);
        c.main(0);
        due.is("no code", c.x.link(1), -1100);
    }

    private static void possible(String what, int answer) {
        due.yes(what + " is possible, not " + answer, answer > 0);
    }

    private static void operands() {
        possible("1 32767", wrong(1, 32767, 17, 0, 40, 0));
        possible("1 -32768", wrong(1, -32768, 17, 0, 40, 0));
        due.is("1 32768", wrong(1, 32768, 17, 0, 40, 0), 0);
        due.is("1 -32769", wrong(0, 0, 1, -32769, 17, 0, 40, 0), -1);
        possible("3 2", wrong(1, 0, 3, 2, 40, 0));
        due.is("3 3", wrong(1, 0, 3, 3, 40, 0), -1);
        due.is("3 -1", wrong(1, 0, 3, -1, 40, 0), -1);
        due.is("2 3", wrong(2, 3, 17, 0, 40, 0), 0);
        for (int op = 19; op <= 25; op++) {
            int put = op == 23 || op == 24 ? 45 : 1;
            due.is(op + " to 5 of 5", wrong(put, 0, put, 0, op, 5, 0, 0, 40, 0), -2);
            due.is(op + " to - 1", wrong(put, 0, put, 0, op, -1, 0, 0, 40, 0), -2);
            possible(op + " to 4", wrong(put, 0, put, 0, op, 4, 0, 0, 40, 0));
        }
        possible("26 1", wrong(26, 1, 17, 0, 40, 0));
        due.is("26 2", wrong(26, 2, 17, 0, 40, 0), 0);
        due.is("26 -1", wrong(26, -1, 17, 0, 40, 0), 0);
        possible("44 0", wrong(45, 0, 44, 0, 17, 0, 40, 0));
        due.is("44 2", wrong(45, 0, 44, 2, 17, 0, 40, 0), -1);
        possible("27 1", wrong(45, 0, 27, 1, 17, 0, 40, 0));
        due.is("27 2: class 0 has 2 ints", wrong(45, 0, 27, 2, 17, 0, 40, 0), -1);
        due.is("27 9: class 1 has 1 of its own", wrong(45, 0, 27, 9, 17, 0, 40, 0), -1);
        due.is("27 16: no class 2", wrong(45, 0, 27, 16, 17, 0, 40, 0), -1);
        due.is("27 -1", wrong(45, 0, 27, -1, 17, 0, 40, 0), -1);
        due.is("27 -8", wrong(45, 0, 27, -8, 17, 0, 40, 0), -1);
        possible("28 8", wrong(45, 0, 1, 0, 28, 8, 40, 0));
        due.is("28 9", wrong(45, 0, 1, 0, 28, 9, 40, 0), -2);
        possible("29 10", wrong(45, 0, 29, 10, 17, 0, 40, 0));
        due.is("29 11", wrong(45, 0, 29, 11, 17, 0, 40, 0), -1);
        due.is("29 1: class 0 has 1 ref", wrong(45, 0, 29, 1, 17, 0, 40, 0), -1);
        possible("30 0", wrong(45, 0, 45, 0, 30, 0, 40, 0));
        due.is("30 1", wrong(45, 0, 45, 0, 30, 1, 40, 0), -2);
        possible("38 1", wrong(1, 0, 45, 0, 38, 1, 17, 0, 40, 0));
        due.is("38 of one with a name", wrong(45, 0, 45, 0, 38, 0, 17, 0, 40, 0), -2);
        due.is("38 of none", wrong(38, 3, 40, 0), 0);
        due.is("38 -1", wrong(38, -1, 40, 0), 0);
        possible("39 5", wrong(45, 0, 45, 0, 39, 5, 17, 0, 40, 0));
        due.is("39 4: no method has that name", wrong(45, 0, 39, 4, 40, 0), -1);
        due.is("39 -2: static ones have no name", wrong(45, 0, 45, 0, 39, NONE, 40, 0), -2);
        due.is("39 8", wrong(45, 0, 39, 8, 40, 0), -1);
        due.is("48 without a name 0", wrong(45, 0, 48, 0, 40, 0), -1);
        due.is("41 where nothing is returned", wrong(1, 0, 41, 0), -1);
        due.is("42 where nothing is returned", wrong(45, 0, 42, 0), -1);
        for (int op = 52; op <= 55; op++) {
            int put = op == 53 ? 1 : 45;
            int drop = op == 52 || op == 54 ? 17 : 0;
            possible(op + " 7", wrong(put, 0, op, 7, drop, 0, 40, 0));
            due.is(op + " 8", wrong(put, 0, op, 8, drop, 0, 40, 0), -1);
            due.is(op + " -1", wrong(put, 0, op, -1, drop, 0, 40, 0), -1);
        }
        begins();
    }

    private static void begins() {
        Bench b = bench();
        b.met(0, 0, 1, 0, 0, 2, 40, 0);
        due.is("48 where name 0 takes an argument", b.x.link(b.main(0, 45, 0, 48, 0, 40, 0)), -1101);
        Bench c = bench();
        c.met(0, 0, 0, 0, 2, 1, 45, 0, 42, 0);
        possible("48 where name 0 returns a reference", c.x.link(c.main(0, 45, 0, 48, 0, 40, 0)));
    }

    /** What each instruction takes, by kinds, and the operand with which it is possible. */
    private static void whatInstructionsTake() {
        String[] takes = {
            "0:", "1:", "4:II", "5:II", "6:II", "7:II", "8:II", "9:I", "10:II", "11:II", "12:II", "13:II", "14:II",
            "15:II", "20:I", "21:I", "22:I", "23:R", "24:RR", "25:II", "26:", "27:R", "28:RI", "29:R", "30:RR",
            "31:I", "32:RI", "33:RII", "34:R", "35:I", "36:RI", "37:RIR", "38:IR", "39:RR", "43:R", "44:R", "45:",
            "46:I", "47:", "49:R", "50:R", "51:", "52:", "53:I", "54:", "55:R"
        };
        String puts = " 1:I 4:I 5:I 6:I 7:I 8:I 9:I 10:I 11:I 12:I 13:I 14:I 15:I 26:R 27:I 29:R 31:R 32:I 34:I 35:R "
                + "36:R 38:R 39:I 44:I 45:R 47:I 52:I 54:R ";
        for (String row : takes) {
            int op = Integer.parseInt(row.substring(0, row.indexOf(':')));
            String kinds = row.substring(row.indexOf(':') + 1);
            int operand = op == 38 ? 1 : op == 39 ? 5 : op >= 20 && op <= 25 ? kinds.length() + 1 : 0;
            possible(op + " with " + kinds, take(op, operand, kinds, ""));
            for (int i = 0; i < kinds.length(); i++) {
                char other = kinds.charAt(i) == 'I' ? 'R' : 'I';
                String spoilt = kinds.substring(0, i) + other + kinds.substring(i + 1);
                due.is(op + " with " + spoilt, take(op, operand, spoilt, ""), -kinds.length());
                int at = kinds.length() - 1;
                due.is(op + " with too few", take(op, op >= 20 && op <= 25 ? at + 1 : operand, kinds.substring(1), ""), -at);
            }
            int put = puts.indexOf(" " + op + ":");
            String right = put < 0 ? "" : puts.substring(put + (" " + op + ":").length()).substring(0, 1);
            if (!right.isEmpty()) {
                possible(op + " puts " + right, take(op, operand, kinds, right));
                due.is(op + " puts no other", take(op, operand, kinds, right.equals("I") ? "R" : "I"), -kinds.length() - 1);
            } else if (op != 43) {
                due.is(op + " puts nothing", take(op, operand, kinds, "X"), -kinds.length() - 1);
            }
        }
        possible("16 17 17", wrong(45, 0, 16, 0, 17, 0, 17, 0, 40, 0));
        due.is("16 of nothing", wrong(16, 0, 40, 0), 0);
        due.is("17 of nothing", wrong(17, 0, 40, 0), 0);
        due.is("18 of one", wrong(1, 0, 18, 0, 40, 0), -1);
        possible("18 changes kinds", wrong(1, 0, 45, 0, 18, 0, 46, 0, 43, 0));
        due.is("18 changes kinds", wrong(1, 0, 45, 0, 18, 0, 43, 0), -3);
    }

    /** Puts values of these kinds, then the instruction, then one that takes what it should put, then 40. */
    private static int take(int op, int operand, String kinds, String then) {
        int[] code = new int[2 * (kinds.length() + 3)];
        for (int i = 0; i < kinds.length(); i++) {
            code[2 * i] = kinds.charAt(i) == 'I' ? 1 : 45;
        }
        code[2 * kinds.length()] = op;
        code[2 * kinds.length() + 1] = operand;
        code[2 * kinds.length() + 2] = then.equals("I") ? 46 : then.equals("R") ? 49 : then.equals("X") ? 17 : 0;
        code[2 * kinds.length() + 4] = 40;
        return wrong(code);
    }

    private static void stackOfTen() {
        int[] code = new int[2 * 12];
        for (int i = 0; i < 10; i++) {
            code[2 * i] = 1;
        }
        code[20] = 18;
        code[22] = 40;
        possible("ten values", wrong(code));
        code[20] = 1;
        due.is("eleven values", wrong(code), -10);
        code[20] = 16;
        due.is("eleven values by 16", wrong(code), -10);
        code[20] = 9;
        possible("one for one", wrong(code));
        code[20] = 47;
        due.is("eleven values by 47", wrong(code), -10);
    }

    private static void locals() {
        due.is("2 of a local that is not set", wrong(2, 0, 17, 0, 40, 0), 0);
        possible("2 behind 3", wrong(1, 5, 3, 0, 2, 0, 46, 0, 40, 0));
        due.is("a local has the kind that it got last", wrong(1, 5, 3, 0, 45, 0, 3, 0, 2, 0, 46, 0, 40, 0), -5);
        Bench b = bench();
        int m = b.met(0, NONE, 3, 5, 0, 4, 2, 0, 43, 0);
        possible("references by bits: the first one", b.x.link(b.main(0, 45, 0, 1, 0, 45, 0, 38, m, 40, 0)));
        Bench c = bench();
        int n = c.met(0, NONE, 3, 6, 0, 4, 2, 0, 46, 0, 2, 2, 43, 0);
        possible("an int, then references", c.x.link(c.main(0, 1, 0, 45, 0, 45, 0, 38, n, 40, 0)));
        Bench d = bench();
        d.met(0, 2, 1, 0, 0, 3, 2, 1, 46, 0, 2, 0, 43, 0);
        possible("a receiver, then an int", d.x.link(d.main(0, 26, 0, 1, 0, 39, 2, 40, 0)));
        Bench e = bench();
        e.met(0, 2, 1, 0, 0, 3, 2, 2, 17, 0, 40, 0);
        due.is("locals behind the arguments are not set", e.x.link(e.main(0, 26, 0, 1, 0, 39, 2, 40, 0)), -1000);
    }

    private static void ends() {
        due.is("nothing behind 0", wrong(0, 0), 0);
        due.is("nothing behind 20", wrong(1, 0, 20, 0), -1);
        possible("19 needs nothing behind it", wrong(19, 0));
        possible("43 needs nothing behind it", wrong(45, 0, 43, 0));
        possible("what is not come to is never wrong", wrong(40, 0, 1, 99999, 4, 0, 61, 0));
    }

    private static int withTrap(int from, int to, int handler, int what) {
        Bench b = bench();
        b.main(0, 0, 0, 40, 0, 17, 0, 40, 0);
        b.x.trap(0, 1, 2, -1);
        b.x.trap(from, to, handler, what);
        return b.x.link(0);
    }

    private static void traps() {
        possible("0 .. 4", withTrap(0, 2, 2, 1));
        possible("- 10", withTrap(0, 2, 2, -10));
        possible("b is the number of instructions", withTrap(3, 4, 2, -1));
        due.is("a below 0", withTrap(-1, 1, 2, -1), -1099);
        due.is("a is b", withTrap(1, 1, 2, -1), -1099);
        due.is("a above b", withTrap(2, 1, 2, -1), -1099);
        due.is("b too high", withTrap(0, 5, 2, -1), -1099);
        due.is("handler 4 of 4", withTrap(0, 1, 4, -1), -1099);
        due.is("handler - 1", withTrap(0, 1, -1, -1), -1099);
        due.is("no class 2", withTrap(0, 1, 2, 2), -1099);
        due.is("what - 11", withTrap(0, 1, 2, -11), -1099);
        Bench b = bench();
        b.main(0, 4, 0);
        b.x.trap(0, 1, 1, -1);
        due.is("a trap comes before instructions", b.x.link(0), -1099);
        Bench c = bench();
        c.main(0);
        c.x.trap(0, 1, 1, -1);
        due.is("no code comes before a trap", c.x.link(0), -1000);
    }

    private static void orderOfLooking() {
        due.is("of two that were come to the lower one", wrong(47, 0, 20, 4, 4, 0, 40, 0, 4, 0, 40, 0), -2);
        due.is("the target is come to before the next one",
                wrong(47, 0, 20, 8, 47, 0, 20, 7, 1, 1, 1, 1, 20, 8, 40, 0, 40, 0), -8);
        due.is("the lowest one is looked at first",
                wrong(19, 3, 4, 0, 40, 0, 1, 0, 20, 1, 4, 0), -1);
        due.is("a target with another stack is wrong before the next one is looked at",
                wrong(47, 0, 1, 0, 20, 0, 4, 0, 40, 0), 0);
        due.is("its operand comes before its next one", wrong(1, 99999), 0);
    }

    private static void merging() {
        due.is("unlike stacks", wrong(47, 0, 20, 3, 1, 0, 40, 0), -3);
        due.is("as high, of other kinds", wrong(1, 0, 47, 0, 20, 5, 17, 0, 45, 0, 40, 0), -5);
        due.is("a local is int on one way, reference on the other",
                wrong(47, 0, 20, 5, 1, 0, 3, 0, 19, 7, 45, 0, 3, 0, 2, 0, 17, 0, 40, 0), -7);
        possible("it may be set again",
                wrong(47, 0, 20, 5, 1, 0, 3, 0, 19, 7, 45, 0, 3, 0, 1, 0, 3, 0, 2, 0, 46, 0, 40, 0));
        due.is("not set on one way", wrong(47, 0, 20, 4, 1, 0, 3, 0, 2, 0, 17, 0, 40, 0), -4);
        due.is("an instruction is looked at again, as its locals shrink on a way back",
                wrong(1, 0, 3, 0, 2, 0, 17, 0, 45, 0, 3, 0, 19, 2), -2);
    }

    private static void handlersComeFirst() {
        Bench b = bench();
        b.main(1, 4, 0, 40, 0, 17, 0, 40, 0);
        b.x.trap(0, 1, 1, -1);
        b.x.trap(0, 1, 2, -1);
        due.is("instruction 0 is wrong though its handler is come to", b.x.link(0), -1000);
        Bench c = bench();
        c.main(1, 0, 0, 0, 0, 17, 0, 40, 0);
        c.x.trap(0, 1, 1, -1);
        due.is("the handler is come to with one R before the next one is with nothing", c.x.link(0), -1001);
        Bench d = bench();
        d.main(1, 0, 0, 1, 5, 3, 0, 40, 0, 3, 0, 40, 0);
        d.x.trap(0, 3, 4, -1);
        possible("a handler with its locals", d.x.link(0));
        Bench e = bench();
        e.main(1, 0, 0, 1, 5, 3, 0, 40, 0, 17, 0, 2, 0, 46, 0, 40, 0);
        e.x.trap(2, 4, 4, -1);
        due.is("a local is not set in a handler of the instruction that sets it", e.x.link(0), -1005);
        Bench f = bench();
        f.main(1, 0, 0, 1, 5, 3, 0, 40, 0, 17, 0, 2, 0, 46, 0, 40, 0);
        f.x.trap(3, 4, 4, -1);
        possible("but in one of the next", f.x.link(0));
        Bench g = bench();
        g.main(0, 0, 0, 40, 0, 17, 0, 40, 0);
        g.x.trap(0, 4, 1, -1);
        due.is("a trap around its own handler", g.x.link(0), -1001);
    }

    private static void onlyReachedMethodsCount() {
        Bench b = bench();
        b.main(0, 38, 2, 40, 0);
        b.main(0, 4, 0);
        b.main(0, 40, 0);
        possible("method 1 is wrong, but not reached", b.x.link(0));
        due.is("it is when it is main", b.x.link(1), -1100);
        b.main(0, 40, 0, 38, 1);
        due.is("an instruction that is not come to reaches", b.x.link(3), -1100);
        b.main(0, 38, 5, 40, 0);
        b.main(0, 38, 1, 1, 99999);
        due.is("methods in their order, not as they are reached", b.x.link(4), -1100);
    }

    private static void namesReach() {
        Bench b = bench();
        b.cls(1, 0, 0);
        b.met(0, 2, 0, 0, 0, 1, 4, 0);
        b.met(1, 2, 0, 0, 0, 1, 40, 0);
        int onTwo = b.main(0, 26, 2, 39, 2, 40, 0);
        possible("an object of class 2 finds the method of class 1", b.x.link(onTwo));
        int onZero = b.main(0, 26, 0, 39, 2, 40, 0);
        due.is("one of class 0 finds that of class 0", b.x.link(onZero), -1000);
        int other = b.main(0, 26, 1, 17, 0, 45, 0, 39, 2, 40, 0);
        possible("class 0 is not made", b.x.link(other));
        int none = b.main(0, 26, 0, 17, 0, 40, 0);
        possible("the name is not called", b.x.link(none));
        Bench c = bench();
        c.met(0, 0, 0, 0, 0, 1, 4, 0);
        due.is("48 calls name 0", c.x.link(c.main(0, 26, 1, 48, 0, 40, 0)), -1000);
        Bench d = bench();
        d.met(0, 1, 0, 0, 0, 1, 26, 1, 17, 0, 40, 0);
        d.met(1, 2, 0, 0, 0, 1, 4, 0);
        due.is("what a method reached by name makes", d.x.link(d.main(0, 26, 0, 39, 1, 45, 0, 39, 2, 40, 0)), -1100);
    }

    private static void whatWasLinkedStays() {
        Bench b = bench();
        b.main(0, 40, 0);
        b.main(0, 4, 0);
        b.x.link(0);
        String image = b.image();
        due.is("wrong", b.x.link(1), -1100);
        due.is("bad", b.x.link(7), BAD);
        due.text("the image", b.image(), image);
        due.is("its length", b.x.told(2), 19);
        due.yes("it boots", b.x.boot(5, 50));
        due.is("it runs", b.x.run(5), 1);
        b.main(0, 1, 77, 46, 0, 40, 0);
        b.x.boot(5, 50);
        due.is("another one is linked", b.x.link(2), 22);
        due.is("what runs goes on as it was booted", b.x.run(9), 1);
        due.is("nothing went out", b.x.told(7), 0);
        b.x.boot(5, 50);
        b.x.run(9);
        due.text("the new one", b.outs(), "77");
    }
}
