/** Promises 1 to 5: a new object, cls, method, code, trap. */
public final class SourceTest {
    private static final int BAD = PocketMachine.BAD, NONE = PocketMachine.NONE;
    private static final Due due = new Due("source");

    public static void main(String[] args) {
        newObject();
        classes();
        methods();
        methodsOfOneName();
        localsForArguments();
        code();
        traps();
        due.end();
    }

    private static void newObject() {
        PocketMachine x = new PocketMachine();
        for (int what = 0; what <= 9; what++) {
            due.is("told(" + what + ") of a new object", x.told(what), 0);
        }
        due.is("image(0)", x.image(0), BAD);
        due.is("out(0)", x.out(0), NONE);
        due.is("thread(0, 0)", x.thread(0, 0), BAD);
        due.is("run(1)", x.run(1), BAD);
        due.is("link(0)", x.link(0), BAD);
        due.no("boot(1, 50)", x.boot(1, 50));
        due.no("input(1)", x.input(1));
        due.yes("sound()", x.sound());
        due.is("check()", x.check(), 1);
    }

    private static void classes() {
        PocketMachine x = new PocketMachine();
        due.is("a class above that is not there", x.cls(0, 0, 0), BAD);
        due.is("above NONE", x.cls(NONE, 0, 0), BAD);
        due.is("ints - 1", x.cls(BAD, -1, 0), BAD);
        due.is("ints 7", x.cls(BAD, 7, 0), BAD);
        due.is("refs - 1", x.cls(BAD, 0, -1), BAD);
        due.is("refs 7", x.cls(BAD, 0, 7), BAD);
        due.is("ints 2^31 - 1", x.cls(BAD, Integer.MAX_VALUE, 0), BAD);
        due.is("no class yet", x.told(0), 0);
        due.is("class 0", x.cls(BAD, 6, 6), 0);
        due.is("a class above itself", x.cls(1, 0, 0), BAD);
        for (int c = 1; c < 10; c++) {
            due.is("class " + c, x.cls(c - 1, c % 7, 6 - c % 7), c);
        }
        due.is("an eleventh class", x.cls(BAD, 0, 0), BAD);
        due.is("ten classes", x.told(0), 10);
    }

    private static void methods() {
        PocketMachine x = new PocketMachine();
        due.is("a method of no class", x.method(0, NONE, 0, 0, 0, 0), BAD);
        x.cls(BAD, 0, 0);
        due.is("class - 1", x.method(-1, NONE, 0, 0, 0, 0), BAD);
        due.is("class 1", x.method(1, NONE, 0, 0, 0, 0), BAD);
        due.is("name - 1", x.method(0, -1, 0, 0, 0, 1), BAD);
        due.is("name - 3", x.method(0, -3, 0, 0, 0, 1), BAD);
        due.is("name 8", x.method(0, 8, 0, 0, 0, 1), BAD);
        due.is("arguments - 1", x.method(0, NONE, -1, 0, 0, 1), BAD);
        due.is("arguments 5", x.method(0, NONE, 5, 0, 0, 12), BAD);
        due.is("references - 1", x.method(0, NONE, 1, -1, 0, 1), BAD);
        due.is("references 1 of none", x.method(0, NONE, 0, 1, 0, 1), BAD);
        due.is("references 16 of 4", x.method(0, NONE, 4, 16, 0, 12), BAD);
        due.is("returns - 1", x.method(0, NONE, 0, 0, -1, 1), BAD);
        due.is("returns 3", x.method(0, NONE, 0, 0, 3, 1), BAD);
        due.is("locals - 1", x.method(0, NONE, 0, 0, 0, -1), BAD);
        due.is("locals 13", x.method(0, NONE, 0, 0, 0, 13), BAD);
        due.is("arguments 32, as a shift takes them", x.method(0, NONE, 32, 0, 0, 12), BAD);
        due.is("no method yet", x.told(1), 0);
        due.is("the first", x.method(0, NONE, 4, 15, 2, 12), 0);
        for (int m = 1; m < 24; m++) {
            due.is("method " + m, x.method(0, NONE, 0, 0, 0, 0), m);
        }
        due.is("a 25th", x.method(0, NONE, 0, 0, 0, 0), BAD);
        due.is("24 methods", x.told(1), 24);
    }

    private static void methodsOfOneName() {
        PocketMachine x = new PocketMachine();
        x.cls(BAD, 0, 0);
        x.cls(0, 0, 0);
        due.is("name 3", x.method(0, 3, 2, 1, 1, 3), 0);
        due.is("once more of this class", x.method(0, 3, 2, 1, 1, 3), BAD);
        due.is("other arguments", x.method(1, 3, 1, 1, 1, 3), BAD);
        due.is("other references", x.method(1, 3, 2, 2, 1, 3), BAD);
        due.is("other return", x.method(1, 3, 2, 1, 2, 3), BAD);
        due.is("another name may differ", x.method(0, 4, 0, 0, 0, 1), 1);
        due.is("the same, other locals", x.method(1, 3, 2, 1, 1, 7), 2);
        due.is("static ones are free", x.method(1, NONE, 1, 0, 2, 7), 3);
        due.is("and one more", x.method(1, NONE, 1, 1, 0, 1), 4);
    }

    private static void localsForArguments() {
        PocketMachine x = new PocketMachine();
        x.cls(BAD, 0, 0);
        due.is("static, 2 arguments, 1 local", x.method(0, NONE, 2, 0, 0, 1), BAD);
        due.is("static, 2 arguments, 2 locals", x.method(0, NONE, 2, 0, 0, 2), 0);
        due.is("named, 2 arguments, 2 locals", x.method(0, 0, 2, 0, 0, 2), BAD);
        due.is("named, 2 arguments, 3 locals", x.method(0, 0, 2, 0, 0, 3), 1);
        due.is("named, none, no local", x.method(0, 1, 0, 0, 0, 0), BAD);
        due.is("named, none, 12 locals", x.method(0, 1, 0, 0, 0, 12), 2);
    }

    private static void code() {
        PocketMachine x = new PocketMachine();
        x.cls(BAD, 0, 0);
        due.is("code without a method", x.code(0, 0), BAD);
        x.method(0, NONE, 0, 0, 0, 0);
        due.is("instruction - 1", x.code(-1, 0), BAD);
        due.is("instruction 56", x.code(56, 0), BAD);
        due.is("instruction 61", x.code(61, 0), BAD);
        for (int i = 0; i < 60; i++) {
            due.is("instruction " + i, x.code(i % 56, Integer.MIN_VALUE + i), i);
        }
        due.is("a 61st", x.code(0, 0), BAD);
        x.method(0, NONE, 0, 0, 0, 0);
        due.is("the next method's first", x.code(55, Integer.MAX_VALUE), 0);
        due.is("a wrong method changes nothing", x.method(9, NONE, 0, 0, 0, 0), BAD);
        due.is("its second", x.code(0, 0), 1);
    }

    private static void traps() {
        PocketMachine x = new PocketMachine();
        x.cls(BAD, 0, 0);
        due.is("trap without a method", x.trap(0, 1, 0, -1), BAD);
        x.method(0, NONE, 0, 0, 0, 0);
        for (int t = 1; t <= 6; t++) {
            due.is("trap " + t, x.trap(-t, Integer.MIN_VALUE, 99, Integer.MAX_VALUE), t);
        }
        due.is("a seventh", x.trap(0, 1, 0, -1), BAD);
        x.method(0, NONE, 0, 0, 0, 0);
        due.is("the next method's first", x.trap(0, 1, 0, -1), 1);
    }
}
