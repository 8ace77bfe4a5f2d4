/** Any call at any time, with arguments at and beyond the document's limits: every answer against PlainMachine. */
public final class AnyCallTest {
    private static final int OBJECTS = 1500, CALLS = 512;
    private static final int[] FAR = {Integer.MIN_VALUE, Integer.MIN_VALUE + 1, -65536, -32769, -32768, -129, -128, -11, -10,
        -3, -2, -1, 0, 1, 2, 3, 4, 5, 6, 7, 8, 9, 10, 11, 12, 13, 15, 16, 23, 24, 49, 50, 51, 55, 56, 59, 60, 61, 99, 100, 127,
        128, 199, 200, 201, 255, 256, 299, 300, 4999, 5000, 5001, 7999, 8000, 8001, 32767, 32768, 65535, 65536,
        Integer.MAX_VALUE - 1, Integer.MAX_VALUE};
    private final Due due = new Due("any call");
    private final int[] asked = new int[15];
    private PocketMachine x;
    private PlainMachine y;
    private Dice dice;
    private int calls;

    public static void main(String[] args) {
        AnyCallTest test = new AnyCallTest();
        int objects = args.length > 0 ? Integer.parseInt(args[0]) : OBJECTS;
        int first = args.length > 1 ? Integer.parseInt(args[1]) : 0;
        for (int seed = first; seed < first + objects; seed++) {
            test.one(seed);
        }
        for (int call = 0; call < 15; call++) {
            test.due.yes("call " + call + " was made", test.asked[call] > 100);
        }
        test.due.end();
    }

    private void one(int seed) {
        dice = new Dice(seed * 31L + 5);
        x = new PocketMachine();
        y = new PlainMachine();
        calls = 0;
        if (dice.chance(80)) {
            program(new ProgramMaker(dice));
            same(seed, "link(0)", x.link(0), y.link(0));
            same(seed, "boot", x.boot(3, 200) ? 1 : 0, y.boot(3, 200) ? 1 : 0);
        }
        while (calls < CALLS) {
            any(seed);
        }
    }

    private void same(int seed, String call, int got, int want) {
        calls++;
        due.is("object " + seed + ", call " + calls + ": " + call, got, want);
    }

    private void program(ProgramMaker p) {
        for (int[] c : p.classes) {
            same(0, "cls", x.cls(c[0], c[1], c[2]), y.cls(c[0], c[1], c[2]));
        }
        for (int m = 0; m < p.sigs.size() && calls < 400; m++) {
            ProgramMaker.Sig s = p.sigs.get(m);
            same(0, "method", x.method(s.cls(), s.name(), s.args(), s.refs(), s.ret(), s.locals()),
                    y.method(s.cls(), s.name(), s.args(), s.refs(), s.ret(), s.locals()));
            for (int[] in : p.bodies.get(m).code()) {
                same(0, "code", x.code(in[0], in[1]), y.code(in[0], in[1]));
            }
            for (int[] t : p.bodies.get(m).traps()) {
                same(0, "trap", x.trap(t[0], t[1], t[2], t[3]), y.trap(t[0], t[1], t[2], t[3]));
            }
        }
    }

    /** A number that is likely to be one, or near the end of them, or far away. */
    private int number(int least, int most) {
        if (dice.chance(60)) {
            return dice.from(least, most);
        }
        return dice.chance(60) ? dice.any(least - 1, least, most, most + 1) : FAR[dice.next(FAR.length)];
    }

    private void any(int seed) {
        int call = dice.next(15);
        int a = 0;
        int b = 0;
        int c = 0;
        int d = 0;
        asked[call]++;
        switch (call) {
            case 0:
                a = number(-1, 9);
                b = number(0, 6);
                c = number(0, 6);
                same(seed, "cls " + a + " " + b + " " + c, x.cls(a, b, c), y.cls(a, b, c));
                break;
            case 1: method(seed); break;
            case 2:
                a = number(0, 55);
                b = number(-1, 12);
                same(seed, "code " + a + " " + b, x.code(a, b), y.code(a, b));
                break;
            case 3:
                a = number(0, 59);
                b = number(0, 60);
                c = number(0, 59);
                d = number(-10, 9);
                same(seed, "trap " + a + " " + b + " " + c + " " + d, x.trap(a, b, c, d), y.trap(a, b, c, d));
                break;
            case 4:
                a = number(0, Math.max(0, y.told(1) - 1));
                same(seed, "link " + a, x.link(a), y.link(a));
                break;
            case 5:
                a = number(0, Math.max(0, y.told(2) - 1));
                same(seed, "image " + a, x.image(a), y.image(a));
                break;
            default: later(seed, call); break;
        }
    }

    private void method(int seed) {
        int[] a = {number(0, Math.max(0, y.told(0) - 1)), number(-2, 7), number(0, 4), number(0, 3), number(0, 2),
            number(0, 12)};
        same(seed, "method " + java.util.Arrays.toString(a), x.method(a[0], a[1], a[2], a[3], a[4], a[5]),
                y.method(a[0], a[1], a[2], a[3], a[4], a[5]));
    }

    private void later(int seed, int call) {
        int a = 0;
        int b = 0;
        switch (call) {
            case 6:
                a = y.told(9) < y.told(2) && dice.chance(90) ? y.image(y.told(9)) : number(0, 255);
                same(seed, "feed " + a, x.feed(a) ? 1 : 0, y.feed(a) ? 1 : 0);
                break;
            case 7: same(seed, "check", x.check(), y.check()); break;
            case 8:
                a = number(1, 50);
                b = number(50, 8000);
                same(seed, "boot " + a + " " + b, x.boot(a, b) ? 1 : 0, y.boot(a, b) ? 1 : 0);
                break;
            case 9:
                a = number(-5, 5);
                same(seed, "input " + a, x.input(a) ? 1 : 0, y.input(a) ? 1 : 0);
                break;
            case 10:
                a = dice.chance(70) ? number(1, 60) : number(1, 5000);
                same(seed, "run " + a, x.run(a), y.run(a));
                break;
            case 11:
                a = number(0, 299);
                same(seed, "out " + a, x.out(a), y.out(a));
                break;
            case 12:
                a = number(0, 5);
                b = number(0, 2);
                same(seed, "thread " + a + " " + b, x.thread(a, b), y.thread(a, b));
                break;
            case 13: same(seed, "sound", x.sound() ? 1 : 0, 1); break;
            default:
                a = number(0, 9);
                same(seed, "told " + a, x.told(a), y.told(a));
                break;
        }
    }
}
