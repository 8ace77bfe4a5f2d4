/** Programs by dice: every answer of PocketMachine against that of PlainMachine. */
public final class ModelTest {
    private static final int PROGRAMS = 6000;
    private final Due due;
    private PocketMachine x;
    private PlainMachine y;
    private String about;
    private final int[] failures = new int[128];
    private int linked;
    private int wrong;
    private int collections;
    private int waited;

    private ModelTest(Due due) {
        this.due = due;
    }

    public static void main(String[] args) {
        ModelTest test = new ModelTest(new Due("model"));
        int programs = args.length > 0 ? Integer.parseInt(args[0]) : PROGRAMS;
        int first = args.length > 1 ? Integer.parseInt(args[1]) : 0;
        for (int seed = first; seed < first + programs; seed++) {
            test.one(seed);
        }
        test.tell();
        test.due.end();
    }

    private void tell() {
        StringBuilder seen = new StringBuilder();
        for (int k = 0; k < failures.length; k++) {
            if (failures[k] > 0) {
                seen.append(' ').append(k < 10 ? -k : k).append(':').append(failures[k]);
            }
        }
        System.out.println("model: linked " + linked + ", wrong " + wrong + ", collections " + collections
                + ", waiting " + waited + ", threads ended by" + seen);
        due.yes("programs of all sorts", args(linked, wrong, collections, waited));
    }

    private static boolean args(int... counts) {
        for (int count : counts) {
            if (count < 10) {
                return false;
            }
        }
        return true;
    }

    private void same(String call, long got, long want) {
        due.is(about + " " + call, got, want);
    }

    private void one(int seed) {
        Dice dice = new Dice(seed);
        about = "program " + seed;
        x = new PocketMachine();
        y = new PlainMachine();
        int rounds = dice.chance(15) ? 2 : 1;
        build(new ProgramMaker(dice), dice);
        for (int round = 0; round < rounds; round++) {
            int main = dice.chance(90) ? 0 : dice.from(-1, y.methods.size());
            int length = y.link(main);
            same("link(" + main + ")", x.link(main), length);
            linked += length > 0 ? 1 : 0;
            wrong += length <= -1000 ? 1 : 0;
            compareImage();
            int boots = dice.from(1, 2);
            for (int b = 0; b < boots; b++) {
                bootAndRun(dice);
            }
            if (round + 1 < rounds) {
                // What runs goes on as it was booted, though the source goes on growing.
                int op = dice.next(56);
                same("code", x.code(op, 1), y.code(op, 1));
                continueRun(dice);
            }
        }
    }

    private void build(ProgramMaker p, Dice dice) {
        for (int[] c : p.classes) {
            same("cls", x.cls(c[0], c[1], c[2]), y.cls(c[0], c[1], c[2]));
        }
        for (int m = 0; m < p.sigs.size(); m++) {
            ProgramMaker.Sig s = p.sigs.get(m);
            same("method", x.method(s.cls(), s.name(), s.args(), s.refs(), s.ret(), s.locals()),
                    y.method(s.cls(), s.name(), s.args(), s.refs(), s.ret(), s.locals()));
            for (int[] in : p.bodies.get(m).code()) {
                same("code", x.code(in[0], in[1]), y.code(in[0], in[1]));
            }
            for (int[] t : p.bodies.get(m).traps()) {
                same("trap", x.trap(t[0], t[1], t[2], t[3]), y.trap(t[0], t[1], t[2], t[3]));
            }
            if (dice.chance(3)) {
                int[] a = {dice.from(-1, 10), dice.from(-3, 8), dice.from(-1, 5), dice.from(-1, 16), dice.from(-1, 3)};
                int locals = dice.from(-1, 13);
                same("method", x.method(a[0], a[1], a[2], a[3], a[4], locals),
                        y.method(a[0], a[1], a[2], a[3], a[4], locals));
                return;
            }
        }
    }

    private void compareImage() {
        int length = Math.max(0, y.told(2));
        for (int i = -1; i <= length; i++) {
            same("image(" + i + ")", x.image(i), y.image(i));
        }
        for (int i = 0; i < length; i++) {
            same("feed", x.feed(y.image(i)) ? 1 : 0, y.feed(y.image(i)) ? 1 : 0);
        }
        same("check()", x.check(), y.check());
    }

    private void bootAndRun(Dice dice) {
        int quantum = dice.chance(95) ? dice.from(1, 12) : dice.from(0, 51);
        int heap = dice.chance(60) ? dice.from(50, 200) : dice.chance(80) ? dice.from(200, 900) : dice.from(49, 8001);
        same("boot(" + quantum + ", " + heap + ")", x.boot(quantum, heap) ? 1 : 0, y.boot(quantum, heap) ? 1 : 0);
        int inputs = dice.chance(5) ? 103 : dice.next(5);
        for (int i = 0; i < inputs; i++) {
            int v = dice.from(-4, 9);
            same("input", x.input(v) ? 1 : 0, y.input(v) ? 1 : 0);
        }
        continueRun(dice);
    }

    private void continueRun(Dice dice) {
        compareState();
        int runs = dice.from(1, 6);
        for (int r = 0; r < runs; r++) {
            int n = dice.chance(50) ? dice.from(1, 20) : dice.chance(90) ? dice.from(1, 400) : dice.from(0, 5001);
            same("run(" + n + ")", x.run(n), y.run(n));
            compareState();
        }
        for (int t = 0; t < 6; t++) {
            int failure = y.thread(t, 2);
            failures[failure < 0 ? -failure : failure] += failure == -1 && y.thread(t, 0) != 3 ? 0 : 1;
        }
        collections += y.told(6) > 0 ? 1 : 0;
    }

    private void compareState() {
        for (int what = -1; what <= 10; what++) {
            same("told(" + what + ")", x.told(what), y.told(what));
        }
        for (int t = -1; t <= 6; t++) {
            for (int what = -1; what <= 3; what++) {
                same("thread(" + t + ", " + what + ")", x.thread(t, what), y.thread(t, what));
            }
            waited += y.thread(t, 0) == 1 ? 1 : 0;
        }
        int outs = Math.min(302, y.told(7) + 1);
        for (int i = -1; i < outs; i++) {
            same("out(" + i + ")", x.out(i), y.out(i));
        }
        due.yes(about + " sound()", x.sound());
    }
}
