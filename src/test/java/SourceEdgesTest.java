/** The boundary cases of promises 1 to 5: a new object, cls, method, code, trap. */
public final class SourceEdgesTest {
    private static final int BAD = PocketMachine.BAD, NONE = PocketMachine.NONE;
    private static final int MIN = Integer.MIN_VALUE, MAX = Integer.MAX_VALUE;
    private static final Due due = new Due("source edges");

    public static void main(String[] args) {
        newObject();
        whichOne();
        tenClasses();
        superClass();
        fields();
        twentyFourMethods();
        classOfMethod();
        names();
        arguments();
        references();
        returns();
        locals();
        localsForArguments();
        othersOfTheName();
        oneOfThisClass();
        noMethodForCode();
        instructions();
        sixtyInstructions();
        operands();
        noMethodForTrap();
        sixTraps();
        refusedMethods();
        due.end();
    }

    private static PocketMachine withClasses(int count) {
        PocketMachine x = new PocketMachine();
        for (int c = 0; c < count; c++) {
            x.cls(BAD, 0, 0);
        }
        return x;
    }

    private static void newObject() {
        due.sentence("No classes, no image, nothing runs.");
        PocketMachine x = new PocketMachine();
        due.is("told(0)", x.told(0), 0);
        due.is("a class above that is not there", x.cls(0, 0, 0), BAD);
        due.is("a method of a class that is not there", x.method(0, NONE, 0, 0, 0, 0), BAD);
        due.is("told(2)", x.told(2), 0);
        due.is("image(0)", x.image(0), BAD);
        due.no("boot", x.boot(1, 50));
        due.is("run(1)", x.run(1), BAD);
        due.is("thread(0, 0)", x.thread(0, 0), BAD);
        due.is("told(4)", x.told(4), 0);
        due.is("out(0)", x.out(0), NONE);
        PocketMachine y = new PocketMachine();
        y.cls(BAD, 0, 0);
        due.is("another object's class is not there", x.told(0), 0);
        due.is("the first class", x.cls(BAD, 0, 0), 0);
    }

    private static void whichOne() {
        due.sentence("One more class (above: BAD for none): which one.");
        PocketMachine x = new PocketMachine();
        for (int c = 0; c < 10; c++) {
            due.is("refused ones have no number", x.cls(c, 0, 0), BAD);
            due.is("class " + c, x.cls(c - 1, c % 7, 6 - c % 7), c);
            due.is("told(0)", x.told(0), c + 1);
        }
    }

    private static void tenClasses() {
        due.sentence("BAD: none such; there are 10.");
        PocketMachine x = new PocketMachine();
        for (int c = 0; c < 10; c++) {
            due.is("class " + c, x.cls(BAD, 0, 0), c);
        }
        due.is("an eleventh", x.cls(BAD, 0, 0), BAD);
        due.is("an eleventh below the tenth", x.cls(9, 0, 0), BAD);
        due.is("told(0)", x.told(0), 10);
        due.is("class 9 is one", x.method(9, NONE, 0, 0, 0, 0), 0);
        due.is("class 10 is none", x.method(10, NONE, 0, 0, 0, 0), BAD);
    }

    private static void superClass() {
        due.sentence("a super class (a lesser one, or none)");
        PocketMachine x = new PocketMachine();
        due.is("itself, as the first", x.cls(0, 0, 0), BAD);
        due.is("none", x.cls(BAD, 0, 0), 0);
        due.is("the last one", x.cls(0, 0, 0), 1);
        due.is("itself", x.cls(2, 0, 0), BAD);
        due.is("a later one", x.cls(3, 0, 0), BAD);
        due.is("NONE", x.cls(NONE, 0, 0), BAD);
        due.is("2^31 - 1", x.cls(MAX, 0, 0), BAD);
        due.is("- 2^31", x.cls(MIN, 0, 0), BAD);
        due.is("none was counted", x.cls(1, 0, 0), 2);
        for (int c = 3; c < 9; c++) {
            x.cls(c - 1, 0, 0);
        }
        due.is("itself, as the tenth", x.cls(9, 0, 0), BAD);
        due.is("the ninth, as the tenth", x.cls(8, 0, 0), 9);
    }

    private static void fields() {
        due.sentence("its own int fields and reference fields (0 .. 6 each)");
        int[] refused = {-1, 7, 8, MIN, MAX};
        PocketMachine x = new PocketMachine();
        for (int n : refused) {
            due.is(n + " ints", x.cls(BAD, n, 0), BAD);
            due.is(n + " references", x.cls(BAD, 0, n), BAD);
            due.is(n + " ints, 6 references", x.cls(BAD, n, 6), BAD);
        }
        due.is("none counts", x.told(0), 0);
        due.is("0 and 0", x.cls(BAD, 0, 0), 0);
        due.is("6 and 0", x.cls(BAD, 6, 0), 1);
        due.is("0 and 6", x.cls(BAD, 0, 6), 2);
        due.is("6 and 6", x.cls(BAD, 6, 6), 3);
        due.is("6 and 6 below them", x.cls(3, 6, 6), 4);
        due.is("7 below them", x.cls(4, 7, 0), BAD);
    }

    private static void twentyFourMethods() {
        due.sentence("locals are not enough for arguments; there are 24.");
        PocketMachine x = withClasses(3);
        for (int m = 0; m < 24; m++) {
            // Methods with names and without them count alike.
            due.is("method " + m, x.method(m % 3, m % 2 == 0 || m == 23 ? NONE : m / 3, 0, 0, 0, 1), m);
        }
        due.is("a static 25th", x.method(0, NONE, 0, 0, 0, 1), BAD);
        due.is("a 25th with a name", x.method(0, 0, 0, 0, 0, 1), BAD);
        due.is("told(1)", x.told(1), 24);
        due.is("code goes to the 24th", x.code(40, 0), 0);
        due.is("the 24th is main", x.link(23), 19);
        due.is("a 25th is not", x.link(24), BAD);
    }

    private static void classOfMethod() {
        due.sentence("One more method: which one. BAD: none such");
        PocketMachine x = withClasses(2);
        for (int c : new int[] {-1, NONE, 2, 9, MIN, MAX}) {
            due.is("class " + c, x.method(c, NONE, 0, 0, 0, 0), BAD);
        }
        due.is("class 0", x.method(0, NONE, 0, 0, 0, 0), 0);
        due.is("class 1", x.method(1, NONE, 0, 0, 0, 0), 1);
    }

    private static void names() {
        due.sentence("a NAME 0 .. 7 (or NONE: it is static)");
        PocketMachine x = withClasses(1);
        for (int name : new int[] {-1, -3, 8, 9, MIN, MAX}) {
            due.is("name " + name, x.method(0, name, 0, 0, 0, 1), BAD);
        }
        due.is("name 0", x.method(0, 0, 0, 0, 0, 1), 0);
        due.is("name 7", x.method(0, 7, 0, 0, 0, 1), 1);
        due.is("NONE", x.method(0, NONE, 0, 0, 0, 1), 2);
        x.code(40, 0);
        due.is("name 0 is no main", x.link(0), BAD);
        due.is("name 7 is no main", x.link(1), BAD);
        due.is("NONE is static", x.link(2), 19);
    }

    private static void arguments() {
        due.sentence("how many ARGUMENTS (0 .. 4)");
        PocketMachine x = withClasses(1);
        for (int a : new int[] {-1, 5, 6, 31, 32, 33, MIN, MAX}) {
            due.is("static, " + a, x.method(0, NONE, a, 0, 0, 12), BAD);
            due.is("named, " + a, x.method(0, 1, a, 0, 0, 12), BAD);
        }
        due.is("static, 0", x.method(0, NONE, 0, 0, 0, 12), 0);
        due.is("static, 4", x.method(0, NONE, 4, 0, 0, 12), 1);
        due.is("named, 0", x.method(0, 1, 0, 0, 0, 12), 2);
        due.is("named, 4", x.method(0, 2, 4, 0, 0, 12), 3);
    }

    private static void references() {
        due.sentence("BAD: none such (of references, too: 0 .. 2^arguments - 1)");
        PocketMachine x = withClasses(1);
        for (int a = 0; a <= 4; a++) {
            due.is("2^" + a, x.method(0, NONE, a, 1 << a, 0, 12), BAD);
            due.is("- 1 of " + a, x.method(0, NONE, a, -1, 0, 12), BAD);
            due.is("- 2^31 of " + a, x.method(0, NONE, a, MIN, 0, 12), BAD);
            due.is("2^31 - 1 of " + a, x.method(0, NONE, a, MAX, 0, 12), BAD);
            due.is("0 of " + a, x.method(0, NONE, a, 0, 0, 12), 2 * a);
            due.is("2^" + a + " - 1", x.method(0, NONE, a, (1 << a) - 1, 0, 12), 2 * a + 1);
        }
        due.is("the receiver has no bit", x.method(0, 3, 0, 1, 0, 12), BAD);
        due.is("four of a name", x.method(0, 3, 4, 16, 0, 12), BAD);
        due.is("15 of a name", x.method(0, 3, 4, 15, 0, 12), 10);
    }

    private static void returns() {
        due.sentence("what it RETURNS (0 nothing, 1 an int, 2 a reference)");
        PocketMachine x = withClasses(1);
        for (int r : new int[] {-1, 3, BAD, NONE, MIN, MAX}) {
            due.is("returns " + r, x.method(0, NONE, 0, 0, r, 1), BAD);
        }
        for (int r = 0; r <= 2; r++) {
            due.is("returns " + r, x.method(0, NONE, 0, 0, r, 1), r);
        }
    }

    private static void locals() {
        due.sentence("LOCALS 0 .. 12");
        PocketMachine x = withClasses(1);
        for (int n : new int[] {-1, 13, MIN, MAX}) {
            due.is("static, " + n, x.method(0, NONE, 0, 0, 0, n), BAD);
            due.is("named, " + n, x.method(0, 0, 0, 0, 0, n), BAD);
        }
        due.is("static, 0", x.method(0, NONE, 0, 0, 0, 0), 0);
        due.is("static, 12", x.method(0, NONE, 0, 0, 0, 12), 1);
        due.is("named, 1", x.method(0, 0, 0, 0, 0, 1), 2);
        due.is("named, 12", x.method(0, 1, 0, 0, 0, 12), 3);
    }

    private static void localsForArguments() {
        due.sentence("(arguments are the first ones, of a method with a name its receiver, a reference, before them)");
        PocketMachine x = withClasses(1);
        for (int a = 0; a <= 4; a++) {
            due.is(a + " arguments, a local less", x.method(0, NONE, a, 0, 0, a - 1), BAD);
            due.is(a + " arguments, as many locals", x.method(0, NONE, a, 0, 0, a), 2 * a);
            due.is("a receiver and " + a + " arguments, a local less", x.method(0, a, a, 0, 0, a), BAD);
            due.is("a receiver and " + a + " arguments, as many locals", x.method(0, a, a, 0, 0, a + 1), 2 * a + 1);
        }
    }

    private static void othersOfTheName() {
        due.sentence("of its name there is one with other arguments, references or return, or one of this class");
        PocketMachine x = withClasses(4);
        due.is("the first of name 7", x.method(0, 7, 2, 1, 1, 3), 0);
        due.is("an argument less", x.method(1, 7, 1, 1, 1, 12), BAD);
        due.is("an argument more", x.method(1, 7, 3, 1, 1, 12), BAD);
        due.is("other references", x.method(1, 7, 2, 2, 1, 12), BAD);
        due.is("no references", x.method(1, 7, 2, 0, 1, 12), BAD);
        due.is("all references", x.method(1, 7, 2, 3, 1, 12), BAD);
        due.is("it returns nothing", x.method(1, 7, 2, 1, 0, 12), BAD);
        due.is("it returns a reference", x.method(1, 7, 2, 1, 2, 12), BAD);
        due.is("the same, more locals", x.method(1, 7, 2, 1, 1, 12), 1);
        due.is("the third is as the first, too", x.method(2, 7, 2, 1, 2, 12), BAD);
        due.is("the third", x.method(2, 7, 2, 1, 1, 4), 2);
        due.is("another name is free", x.method(2, 6, 1, 0, 0, 2), 3);
        due.is("static ones are free", x.method(2, NONE, 3, 4, 2, 3), 4);
        due.is("of each other, too", x.method(2, NONE, 1, 0, 0, 1), 5);
    }

    private static void oneOfThisClass() {
        due.sentence("a class has at most one of a name");
        PocketMachine x = new PocketMachine();
        x.cls(BAD, 0, 0);
        x.cls(0, 0, 0);
        due.is("one", x.method(1, 0, 0, 0, 0, 1), 0);
        due.is("another", x.method(1, 0, 0, 0, 0, 1), BAD);
        due.is("another with more locals", x.method(1, 0, 0, 0, 0, 2), BAD);
        due.is("one of the class above", x.method(0, 0, 0, 0, 0, 1), 1);
        due.is("another of that", x.method(0, 0, 0, 0, 0, 1), BAD);
        due.is("the next name", x.method(1, 1, 0, 0, 0, 1), 2);
        due.is("static ones", x.method(1, NONE, 0, 0, 0, 1), 3);
        due.is("as many as one likes", x.method(1, NONE, 0, 0, 0, 1), 4);
    }

    private static void noMethodForCode() {
        due.sentence("BAD: no method; no such instruction (0 .. 55); it has 60.");
        PocketMachine x = withClasses(1);
        due.is("no method", x.code(0, 0), BAD);
        x.method(5, NONE, 0, 0, 0, 0);
        due.is("a method that was refused", x.code(0, 0), BAD);
        x.method(0, NONE, 0, 0, 0, 0);
        due.is("a method", x.code(0, 0), 0);
    }

    private static void instructions() {
        due.sentence("no such instruction (0 .. 55)");
        PocketMachine x = withClasses(1);
        x.method(0, NONE, 0, 0, 0, 0);
        for (int op : new int[] {-1, 56, 57, 61, 255, 256, MIN, MAX}) {
            due.is("instruction " + op, x.code(op, 0), BAD);
        }
        for (int op = 0; op <= 55; op++) {
            due.is("instruction " + op, x.code(op, 0), op);
        }
    }

    private static void sixtyInstructions() {
        due.sentence("CODE: at most 60 INSTRUCTIONS");
        PocketMachine x = withClasses(1);
        x.method(0, NONE, 0, 0, 0, 0);
        for (int i = 0; i < 59; i++) {
            due.is("instruction " + i, x.code(0, 0), i);
        }
        due.is("one that is none does not count", x.code(56, 0), BAD);
        due.is("the 60th", x.code(40, 0), 59);
        due.is("a 61st", x.code(0, 0), BAD);
        due.is("a 62nd", x.code(40, 0), BAD);
        due.is("all 60 are linked", x.link(0), 9 + 9 + 60);
        due.is("the next method has none", x.method(0, NONE, 0, 0, 0, 0), 1);
        due.is("its first", x.code(40, 0), 0);
    }

    private static void operands() {
        due.sentence("each with an OPERAND (any int where none is told)");
        PocketMachine x = withClasses(1);
        x.method(0, NONE, 0, 0, 0, 1);
        int[] code = {0, 45, 17, 47, 47, 4, 9, 16, 5, 31, 34, 46, 51, 40};
        for (int i = 0; i < code.length; i++) {
            due.is("with " + (i % 2 == 0 ? MIN : MAX), x.code(code[i], i % 2 == 0 ? MIN : MAX), i);
        }
        due.is("they link, a byte each", x.link(0), 9 + 9 + code.length);
        x.boot(50, 100);
        due.is("they run", x.run(100), code.length);
        due.is("to their end", x.thread(0, 0), 2);
    }

    private static void noMethodForTrap() {
        due.sentence("One more trap of the last method: how many it has. BAD: no method; it has 6.");
        PocketMachine x = withClasses(1);
        due.is("no method", x.trap(0, 1, 0, -1), BAD);
        x.method(0, 8, 0, 0, 0, 0);
        due.is("a method that was refused", x.trap(0, 1, 0, -1), BAD);
        x.method(0, NONE, 0, 0, 0, 0);
        due.is("a method without code", x.trap(0, 1, 0, -1), 1);
    }

    private static void sixTraps() {
        due.sentence("TRAPS, at most 6.");
        PocketMachine x = withClasses(1);
        x.method(0, NONE, 0, 0, 0, 0);
        int[] any = {MIN, -1, 0, 61, 255, MAX};
        for (int t = 0; t < 6; t++) {
            due.is("trap " + t, x.trap(any[t], any[5 - t], any[(t + 2) % 6], any[(t + 3) % 6]), t + 1);
        }
        due.is("a seventh", x.trap(0, 1, 0, -1), BAD);
        due.is("an eighth", x.trap(0, 1, 0, -1), BAD);
        x.method(0, NONE, 0, 0, 0, 0);
        due.is("the next method has none", x.trap(0, 1, 0, -1), 1);
    }

    private static void refusedMethods() {
        due.sentence("One more instruction of the last method: which one.");
        PocketMachine x = withClasses(1);
        x.method(0, NONE, 0, 0, 0, 0);
        x.code(0, 0);
        due.is("a class that is none", x.method(1, NONE, 0, 0, 0, 0), BAD);
        due.is("the method before it goes on", x.code(40, 0), 1);
        due.is("so do its traps", x.trap(0, 1, 0, -1), 1);
        due.is("told(1)", x.told(1), 1);
    }
}
