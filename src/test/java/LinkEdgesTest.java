/** The boundary cases of promise 6, and of what is REACHED. */
public final class LinkEdgesTest {
    private static final int BAD = PocketMachine.BAD, NONE = PocketMachine.NONE;
    private static final int MIN = Integer.MIN_VALUE, MAX = Integer.MAX_VALUE;
    private static final Due due = new Due("link edges");

    public static void main(String[] args) {
        lengths();
        mains();
        numberOfWhatIsWrong();
        whatWasLinkedStays();
        whatRunsGoesOn();
        staticCalls();
        callsByName();
        nearestAbove();
        beginsReachNameZero();
        madeInReachedOnes();
        deadCode();
        classesThatInstructionsName();
        classesOfMethodsAndAbove();
        numberedAnew();
        unreachedIsNeverWrong();
        due.end();
    }

    /** Ten classes, each below the one before. */
    private static Bench ten() {
        Bench b = new Bench();
        for (int c = 0; c < 10; c++) {
            b.cls(c - 1, 1, 1);
        }
        return b;
    }

    private static String reached(Bench b, int main) {
        int length = b.x.link(main);
        return length < 0 ? "link " + length : b.x.image(2) + " classes, " + b.x.image(3) + " methods";
    }

    private static void lengths() {
        due.sentence("Links: how long the image is.");
        for (int instructions = 1; instructions <= 60; instructions++) {
            Bench b = withMethods(1);
            for (int i = 1; i < instructions; i++) {
                b.x.code(0, 0);
            }
            b.x.code(40, 0);
            int length = b.x.link(0);
            due.is("with so many", length, 18 + instructions);
            due.is("its last byte", b.x.image(length - 1), 40);
            due.is("none is behind it", b.x.image(length), BAD);
            due.is("told(2)", b.x.told(2), length);
            due.is("linked once more", b.x.link(0), length);
        }
    }

    private static void mains() {
        due.meeting("LINKING begins with a static main method without arguments.",
                "BAD: no such main method (static, without arguments).");
        Bench b = new Bench();
        due.is("link(0) of no method", b.x.link(0), BAD);
        b.cls(BAD, 0, 0);
        due.is("link(0) of a class alone", b.x.link(0), BAD);
        b.main(0, 40, 0);
        b.met(0, 0, 0, 0, 0, 1, 40, 0);
        b.met(0, NONE, 1, 0, 0, 1, 40, 0);
        b.met(0, NONE, 1, 1, 0, 1, 40, 0);
        b.met(0, NONE, 4, 0, 0, 4, 40, 0);
        b.met(0, NONE, 0, 0, 2, 0, 45, 0, 42, 0);
        due.is("the first one", b.x.link(0), 19);
        due.is("one with a name", b.x.link(1), BAD);
        due.is("an int argument", b.x.link(2), BAD);
        due.is("a reference argument", b.x.link(3), BAD);
        due.is("four arguments", b.x.link(4), BAD);
        due.is("the last one; it may return something", b.x.link(5), 20);
        for (int m : new int[] {6, 23, 24, -1, NONE, MIN, MAX}) {
            due.is("link(" + m + ")", b.x.link(m), BAD);
        }
        due.is("the last that was linked stays", b.x.told(2), 20);
    }

    private static Bench withMethods(int count) {
        Bench b = new Bench();
        b.cls(BAD, 0, 0);
        for (int m = 0; m < count; m++) {
            b.main(0);
        }
        return b;
    }

    private static void numberOfWhatIsWrong() {
        due.sentence("- 1,000 less 100 times the method and the instruction: the first one that is wrong "
                + "(of a method without code, 0; of a trap, 99).");
        for (int count : new int[] {1, 24}) {
            int m = count - 1;
            Bench b = withMethods(count);
            due.is("no code", b.x.link(m), -1000 - 100 * m);
            b.x.trap(0, 1, 0, -1);
            due.is("no code, but a trap", b.x.link(m), -1000 - 100 * m);
            b.x.code(0, 0);
            b.x.code(40, 0);
            due.is("instruction 0, come to as a handler", b.x.link(m), -1000 - 100 * m);
            Bench c = withMethods(count);
            for (int i = 0; i < 60; i++) {
                c.x.code(0, 0);
            }
            due.is("instruction 59", c.x.link(m), -1000 - 100 * m - 59);
            c.x.trap(0, 61, 0, -1);
            due.is("a trap", c.x.link(m), -1000 - 100 * m - 99);
            Bench d = withMethods(count);
            d.x.code(17, 0);
            due.is("instruction 0", d.x.link(m), -1000 - 100 * m);
        }
        Bench e = withMethods(2);
        e.x.code(0, 0);
        e.x.code(38, 0);
        e.x.code(17, 0);
        due.is("of two that are wrong the first method", e.x.link(1), -1000);
        Bench f = new Bench();
        f.cls(BAD, 0, 0);
        f.main(0, 0, 0, 17, 0, 17, 0);
        due.is("of two that are wrong the first instruction", f.x.link(0), -1001);
    }

    private static void whatWasLinkedStays() {
        due.sentence("What was linked stays then.");
        Bench b = new Bench();
        b.cls(BAD, 0, 0);
        b.main(0, 17, 0);
        due.is("wrong before any was linked", b.x.link(0), -1000);
        due.is("no image", b.x.told(2), 0);
        due.is("no byte", b.x.image(0), BAD);
        due.no("boot", b.x.boot(5, 50));
        b.main(0, 1, 3, 46, 0, 40, 0);
        b.main(0);
        b.main(0, 40, 0);
        b.x.trap(0, 2, 0, -1);
        b.x.link(1);
        String image = b.image();
        due.is("a wrong instruction", b.x.link(0), -1000);
        due.is("no code", b.x.link(2), -1200);
        due.is("a wrong trap", b.x.link(3), -1399);
        due.is("no main", b.x.link(4), BAD);
        due.text("the image", b.image(), image);
        due.is("told(2)", b.x.told(2), 22);
        due.yes("boot", b.x.boot(5, 50));
        b.x.run(5);
        due.text("what it puts out", b.outs(), "3");
    }

    private static void whatRunsGoesOn() {
        due.sentence("What runs goes on as it was booted, whatever is linked.");
        Bench b = new Bench();
        b.cls(BAD, 0, 0);
        b.cls(BAD, 1, 0);
        b.main(0, 1, 1, 46, 0, 1, 2, 46, 0, 26, 1, 43, 0);
        b.x.link(0);
        b.x.boot(5, 50);
        b.x.run(2);
        b.met(1, 0, 0, 0, 0, 1, 40, 0);
        b.main(1, 26, 0, 3, 0, 26, 1, 48, 0, 1, 9, 46, 0, 40, 0);
        due.yes("another is linked", b.x.link(2) > 0);
        due.is("nothing was begun by it", b.x.told(3), 2);
        b.x.run(9);
        due.text("the first one goes on", b.outs(), "1 2");
        due.is("and ends by its class of the source", b.x.thread(0, 2), 101);
        due.is("a wrong one is linked", b.x.link(b.main(0, 17, 0)), -1300);
        due.text("nothing changes", b.outs(), "1 2");
        b.x.boot(5, 50);
        b.x.run(9);
        due.text("the one that was linked last is booted", b.outs(), "9");
    }

    private static void staticCalls() {
        due.sentence("REACHED are it, methods that 38 in reached ones calls");
        Bench b = new Bench();
        b.cls(BAD, 0, 0);
        b.main(0, 40, 0);
        for (int m = 1; m < 24; m++) {
            b.main(0, 38, m - 1, 40, 0);
        }
        due.text("one alone", reached(b, 0), "0 classes, 1 methods");
        due.text("itself and one", reached(b, 1), "0 classes, 2 methods");
        due.text("a chain of 24", reached(b, 23), "0 classes, 24 methods");
        Bench c = new Bench();
        c.cls(BAD, 0, 0);
        c.main(0, 38, 0, 38, 1, 40, 0);
        c.main(0, 38, 0, 38, 1, 40, 0);
        c.main(0, 38, 0, 40, 0);
        due.text("each other and themselves", reached(c, 1), "0 classes, 2 methods");
        due.text("what calls main is not reached", reached(c, 0), "0 classes, 2 methods");
    }

    private static void callsByName() {
        due.sentence("for 39 and 48 (name 0) the methods of that name of all classes that are made by 26 in reached ones");
        Bench b = new Bench();
        for (int c = 0; c < 4; c++) {
            b.cls(BAD, 0, 0);
            b.met(c, 0, 0, 0, 0, 1, 40, 0);
            b.met(c, 7, 0, 0, 0, 1, 40, 0);
        }
        int none = b.main(0, 45, 0, 39, 7, 40, 0);
        due.text("no class is made", reached(b, none), "0 classes, 1 methods");
        int first = b.main(0, 26, 0, 39, 7, 40, 0);
        due.text("one class is made", reached(b, first), "1 classes, 2 methods");
        int three = b.main(0, 26, 0, 17, 0, 26, 3, 17, 0, 26, 1, 39, 7, 40, 0);
        due.text("three are made", reached(b, three), "3 classes, 4 methods");
        int both = b.main(0, 26, 0, 39, 7, 26, 2, 39, 0, 40, 0);
        due.text("two names of two classes", reached(b, both), "2 classes, 5 methods");
        int asked = b.main(0, 45, 0, 44, 2, 17, 0, 26, 1, 39, 7, 40, 0);
        due.text("a class that is only asked for is not made", reached(b, asked), "2 classes, 2 methods");
    }

    private static void nearestAbove() {
        due.sentence("or of a class above such a one that has it without one between that has one");
        Bench b = ten();
        b.met(0, 3, 0, 0, 0, 1, 40, 0);
        int m = b.main(0, 26, 9, 39, 3, 40, 0);
        due.text("nine classes above", reached(b, m), "10 classes, 2 methods");
        due.is("it is the method of name 3 of class 9", b.x.image(9 + 9 * 11 + 3 + 3), 0);
        b.met(5, 3, 0, 0, 0, 1, 17, 0);
        due.is("one between that has one", b.x.link(m), -1200);
        int four = b.main(0, 26, 4, 39, 3, 40, 0);
        due.text("below class 5 only", reached(b, four), "5 classes, 2 methods");
        int five = b.main(0, 26, 5, 39, 3, 40, 0);
        due.is("class 5 has it itself", b.x.link(five), -1200);
        Bench c = ten();
        c.met(8, 3, 0, 0, 0, 1, 17, 0);
        c.met(9, 3, 0, 0, 0, 1, 40, 0);
        due.text("its own covers the one above", reached(c, c.main(0, 26, 9, 39, 3, 40, 0)), "10 classes, 2 methods");
        due.text("one of a class below is not reached", reached(c, c.main(0, 26, 7, 39, 3, 40, 0)), "8 classes, 1 methods");
    }

    private static void beginsReachNameZero() {
        due.sentence("for 39 and 48 (name 0)");
        Bench b = new Bench();
        b.cls(BAD, 0, 0);
        b.met(0, 0, 0, 0, 0, 1, 40, 0);
        b.met(0, 1, 0, 0, 0, 1, 40, 0);
        due.text("48 whatever its operand", reached(b, b.main(0, 26, 0, 48, 1, 40, 0)), "1 classes, 2 methods");
        due.is("it is the method of name 0", b.x.image(9 + 3), 0);
        due.is("not of name 1", b.x.image(9 + 4), 255);
        due.text("49 reaches none", reached(b, b.main(0, 26, 0, 49, 0, 40, 0)), "1 classes, 1 methods");
    }

    private static void madeInReachedOnes() {
        due.sentence("that are made by 26 in reached ones");
        Bench b = new Bench();
        b.cls(BAD, 0, 0);
        b.cls(BAD, 0, 0);
        b.met(0, 4, 0, 0, 0, 1, 26, 1, 17, 0, 40, 0);
        b.met(1, 5, 0, 0, 0, 1, 40, 0);
        int apart = b.main(0, 26, 0, 17, 0, 45, 0, 39, 5, 40, 0);
        due.text("class 1 is made in one that is not reached", reached(b, apart), "1 classes, 1 methods");
        int late = b.main(0, 45, 0, 39, 5, 26, 0, 39, 4, 40, 0);
        due.text("class 1 is made in one that is reached by name", reached(b, late), "2 classes, 3 methods");
        // Each method makes the next class, whose method of the same name does so again.
        Bench c = ten();
        for (int k = 0; k < 10; k++) {
            c.met(9 - k, 2, 0, 0, 0, 1, 26, Math.max(0, 8 - k), 17, 0, 40, 0);
        }
        due.text("ten, one by the other", reached(c, c.main(0, 26, 9, 39, 2, 40, 0)), "10 classes, 11 methods");
    }

    private static void deadCode() {
        due.sentence("(all instructions of a method count for this)");
        Bench b = new Bench();
        b.cls(BAD, 0, 0);
        b.met(0, 1, 0, 0, 0, 1, 40, 0);
        b.main(0, 40, 0);
        due.text("a call behind the end", reached(b, b.main(0, 40, 0, 38, 1)), "0 classes, 2 methods");
        due.text("a call by name, and what is made", reached(b, b.main(0, 40, 0, 39, 1, 26, 0)), "1 classes, 2 methods");
        due.text("calls of none are not wrong there",
                reached(b, b.main(0, 40, 0, 38, 23, 38, -1, 38, 0, 39, 8, 39, -1, 26, 1, 26, -1, 44, 10)),
                "0 classes, 1 methods");
    }

    private static void names(String what, String want, int... code) {
        Bench b = ten();
        due.text(what, reached(b, b.main(0, code)), want);
    }

    private static void classesThatInstructionsName() {
        due.sentence("Classes are reached that 26 .. 30, 44 or a trap of reached methods names");
        names("none", "0 classes, 1 methods", 40, 0);
        names("25 and 31 name none", "0 classes, 1 methods", 1, 0, 1, 0, 25, 3, 1, 9, 31, 9, 43, 9);
        names("45 names none", "0 classes, 1 methods", 45, 9, 43, 9);
        names("26 of the first", "1 classes, 1 methods", 26, 0, 43, 0);
        names("26 of the last", "10 classes, 1 methods", 26, 9, 43, 0);
        names("27", "4 classes, 1 methods", 45, 0, 27, 24, 17, 0, 40, 0);
        names("28", "5 classes, 1 methods", 45, 0, 1, 0, 28, 32, 40, 0);
        names("29", "6 classes, 1 methods", 45, 0, 29, 40, 17, 0, 40, 0);
        names("30", "10 classes, 1 methods", 45, 0, 45, 0, 30, 72, 40, 0);
        names("44", "8 classes, 1 methods", 45, 0, 44, 7, 17, 0, 40, 0);
        for (int what : new int[] {0, 9, -1, -10}) {
            Bench b = ten();
            int m = b.main(0, 40, 0, 17, 0, 40, 0);
            b.x.trap(0, 1, 1, what);
            due.text("a trap of " + what, reached(b, m), Math.max(0, what + 1) + " classes, 1 methods");
        }
        Bench c = ten();
        c.main(0, 40, 0, 17, 0, 40, 0);
        for (int t = 0; t < 6; t++) {
            c.x.trap(0, 1, 1, t < 5 ? -1 : 2);
        }
        due.text("the last of six traps", reached(c, 0), "3 classes, 1 methods");
        c.main(0, 40, 0);
        due.text("a trap of one that is not reached", reached(c, 1), "0 classes, 1 methods");
    }

    private static void classesOfMethodsAndAbove() {
        due.sentence("those of reached methods with names, and all above these.");
        Bench b = ten();
        b.met(2, 0, 0, 0, 0, 1, 40, 0);
        due.text("the class above that has the method", reached(b, b.main(0, 26, 3, 39, 0, 40, 0)), "4 classes, 2 methods");
        due.is("super of class 0", b.x.image(9), 255);
        due.is("super of class 3", b.x.image(9 + 3 * 11), 2);
        int far = b.met(9, NONE, 0, 0, 0, 0, 40, 0);
        due.text("a static method's class is not reached", reached(b, far), "0 classes, 1 methods");
        Bench c = new Bench();
        c.cls(BAD, 0, 0);
        c.cls(BAD, 0, 0);
        c.cls(0, 0, 0);
        due.text("class 1 is not above class 2", reached(c, c.main(0, 26, 2, 43, 0)), "2 classes, 1 methods");
    }

    private static void numberedAnew() {
        due.sentence("Reached methods and classes are numbered anew, in their order.");
        Bench b = new Bench();
        for (int c = 0; c < 10; c++) {
            b.cls(BAD, 0, 0);
        }
        for (int m = 0; m < 23; m++) {
            b.main(0, 40, 0);
        }
        int last = b.main(0, 38, 22, 38, 1, 26, 9, 17, 0, 26, 4, 17, 0, 40, 0);
        due.text("3 methods of 24, 2 classes of 10", reached(b, last), "2 classes, 3 methods");
        due.is("main is 2", b.x.image(4), 2);
        int code = 9 + 2 * 11 + 3 * 9 + 2;
        due.is("method 22 is 1", b.x.image(code + 1), 1);
        due.is("method 1 is 0", b.x.image(code + 3), 0);
        due.is("class 9 is 1", b.x.image(code + 5), 1);
        due.is("class 4 is 0", b.x.image(code + 8), 0);
        due.text("the first one alone", reached(b, 0), "0 classes, 1 methods");
        due.is("main is 0", b.x.image(4), 0);
    }

    private static void unreachedIsNeverWrong() {
        due.sentence("WRONG is, for reached methods in their order");
        Bench b = new Bench();
        b.cls(BAD, 0, 0);
        b.main(0, 38, 3, 40, 0);
        b.main(0);
        b.main(0, 17, 0);
        b.main(0, 40, 0);
        due.text("methods 1 and 2 are wrong, but not reached", reached(b, 0), "0 classes, 2 methods");
        b.x.trap(0, 2, 0, 0);
        due.is("method 3 is reached, and gets a wrong trap", b.x.link(0), -1399);
        b.main(0, 38, 3, 38, 2, 38, 1, 40, 0);
        due.is("of three the lowest", b.x.link(4), -1100);
    }
}
