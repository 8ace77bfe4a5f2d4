/** The boundary cases of promises 10 to 13: boot, input, run, out, and turns. */
public final class RunEdgesTest {
    private static final int BAD = PocketMachine.BAD, NONE = PocketMachine.NONE;
    private static final int MIN = Integer.MIN_VALUE, MAX = Integer.MAX_VALUE;
    private static final Due due = new Due("run edges");

    public static void main(String[] args) {
        quantumAndHeap();
        noImage();
        refusedBoots();
        bootingAnew();
        bootingInATurn();
        bootingBehindAnException();
        inputBeforeBoot();
        hundredInputs();
        inputsGoRound();
        runNumbers();
        nothingBooted();
        allEnded();
        allWait();
        outNumbers();
        threeHundred();
        noneMayBeOne();
        turnsOfQuantum();
        turnsThatAreCut();
        turnEndsAt51();
        turnOfOneThatEnds();
        turnOfOneThatWaits();
        fromTheOneBehind();
        twentyMethods();
        due.end();
    }

    private static Bench bench() {
        Bench b = new Bench();
        b.cls(BAD, 1, 0);
        return b;
    }

    /** A program that goes on without an end, putting out its inputs, three instructions a round. */
    private static Bench echo() {
        Bench b = bench();
        b.x.link(b.main(0, 47, 0, 46, 0, 19, 0));
        return b;
    }

    private static void quantumAndHeap() {
        due.sentence("one thread with main, with a QUANTUM 1 .. 50 and a HEAP 50 .. 8,000");
        Bench b = echo();
        for (int q : new int[] {0, -1, 51, 256, MIN, MAX}) {
            due.no("quantum " + q, b.x.boot(q, 100));
        }
        for (int h : new int[] {49, 0, -1, 8001, 8002, 65536 + 100, MIN, MAX}) {
            due.no("heap " + h, b.x.boot(10, h));
        }
        due.no("both", b.x.boot(0, 49));
        due.is("nothing was booted", b.x.run(1), BAD);
        int[][] rows = {{1, 50}, {1, 8000}, {50, 50}, {50, 8000}, {2, 51}, {49, 7999}};
        for (int[] row : rows) {
            due.yes("boot(" + row[0] + ", " + row[1] + ")", b.x.boot(row[0], row[1]));
            due.is("one thread", b.x.told(4), 1);
            due.is("it goes on", b.x.thread(0, 0), 0);
            due.is("with main", b.x.thread(0, 1), 1);
            due.is("no other", b.x.thread(1, 0), BAD);
        }
    }

    private static void noImage() {
        due.sentence("False: none such, no image.");
        Bench b = bench();
        due.no("nothing was told", new PocketMachine().boot(1, 50));
        int m = b.main(0, 40, 0);
        due.no("nothing was linked", b.x.boot(1, 50));
        due.is("a wrong main", b.x.link(m + 1), BAD);
        due.no("nothing was linked by it", b.x.boot(1, 50));
        b.x.link(m);
        due.yes("an image", b.x.boot(1, 50));
    }

    private static void refusedBoots() {
        due.sentence("False: none such, no image.");
        Bench b = echo();
        b.x.boot(5, 100);
        b.x.input(7);
        b.x.input(8);
        b.x.run(4);
        due.no("a quantum too much", b.x.boot(51, 100));
        due.no("a heap too little", b.x.boot(5, 49));
        due.is("instructions", b.x.told(3), 4);
        due.is("inputs", b.x.told(8), 0);
        due.text("outs", b.outs(), "7");
        due.is("it goes on", b.x.run(2), 2);
        due.text("outs", b.outs(), "7 8");
    }

    private static void bootingAnew() {
        due.sentence("all that went out, and inputs, are gone");
        Bench b = bench();
        b.met(0, 0, 0, 0, 0, 1, 19, 0);
        b.x.link(b.main(1, 52, 7, 46, 0, 54, 7, 44, 0, 46, 0, 1, 9, 53, 7, 26, 0, 16, 0, 55, 7, 16, 0, 49, 0, 48, 0,
                47, 0, 46, 0, 19, 13));
        for (int round = 0; round < 3; round++) {
            due.yes("boot", b.x.boot(50, 50));
            for (int what = 3; what <= 8; what++) {
                due.is("told(" + what + ")", b.x.told(what), what == 4 ? 1 : 0);
            }
            due.is("out(0)", b.x.out(0), NONE);
            due.is("thread(1, 0)", b.x.thread(1, 0), BAD);
            b.x.input(5);
            b.x.input(6);
            b.x.run(16);
            due.text("statics are 0 and null", b.outs(), "0 0 5");
            due.is("an input is left", b.x.told(8), 1);
        }
    }

    private static void bootingInATurn() {
        due.sentence("The image that was linked last begins to run: one thread with main");
        for (int done : new int[] {1, 5, 17, 60, 110}) {
            Bench fresh = three(5);
            fresh.x.run(300);
            Bench b = three(50);
            b.x.run(done);
            due.yes("boot", b.x.boot(5, 100));
            b.x.run(300);
            due.text("its first turn is a whole one behind " + done, b.outs(), fresh.outs());
            Bench c = three(3);
            c.x.run(done);
            c.x.boot(50, 100);
            c.x.run(50);
            due.text("and a long one", c.outs(), "0 0 0 0 0 0 0 0 0");
        }
    }

    private static void bootingBehindAnException() {
        due.sentence("The image that was linked last begins to run: one thread with main");
        Bench b = bench();
        b.x.link(b.main(0, 47, 0, 22, 4, 45, 0, 43, 0, 40, 0));
        b.x.boot(5, 50);
        b.x.run(9);
        due.is("ended by null", b.x.thread(0, 2), -1);
        b.x.boot(5, 50);
        due.is("it goes on", b.x.thread(0, 0), 0);
        due.is("with main", b.x.thread(0, 1), 1);
        due.is("no exception", b.x.thread(0, 2), 0);
        b.x.input(1);
        b.x.run(9);
        due.is("ended by its return", b.x.thread(0, 0), 2);
        due.is("no exception", b.x.thread(0, 2), 0);
    }

    private static void inputBeforeBoot() {
        due.sentence("An input comes behind the others. False: nothing was booted; 100 are left.");
        due.no("of a new object", new PocketMachine().input(1));
        Bench b = echo();
        due.no("an image is linked", b.x.input(1));
        due.no("a boot that is refused", b.x.boot(0, 50));
        due.no("nothing was booted", b.x.input(1));
        due.is("none is left", b.x.told(8), 0);
        b.x.boot(1, 50);
        due.yes("booted", b.x.input(1));
        due.is("one is left", b.x.told(8), 1);
        Bench ended = bench();
        ended.x.link(ended.main(0, 40, 0));
        ended.x.boot(1, 50);
        ended.x.run(1);
        due.yes("all ended, but it was booted", ended.x.input(1));
    }

    private static void hundredInputs() {
        due.sentence("False: nothing was booted; 100 are left.");
        Bench b = echo();
        b.x.boot(50, 50);
        for (int i = 0; i < 100; i++) {
            due.yes("input " + i, b.x.input(1000 + i));
        }
        due.no("a 101st", b.x.input(1));
        due.no("a 102nd", b.x.input(1));
        due.is("100 are left", b.x.told(8), 100);
        b.x.run(1);
        due.is("one was taken", b.x.told(8), 99);
        due.yes("so there is room for one", b.x.input(2000));
        due.no("but not for two", b.x.input(2001));
        b.x.run(2 + 3 * 100 + 2);
        due.is("none is left", b.x.told(8), 0);
        due.is("the first", b.x.out(0), 1000);
        due.is("the 100th", b.x.out(99), 1099);
        due.is("the one behind them", b.x.out(100), 2000);
        due.is("then there is none", b.x.out(101), 0);
    }

    private static void inputsGoRound() {
        due.sentence("An input comes behind the others.");
        Bench b = echo();
        b.x.boot(50, 50);
        int next = 0;
        for (int round = 0; round < 7; round++) {
            for (int i = 0; i < 40; i++) {
                b.x.input(next);
                next++;
            }
            b.x.run(3 * 40);
        }
        due.is("280", b.x.told(7), 280);
        for (int i = 39; i < 280; i += 40) {
            due.is("out(" + i + ")", b.x.out(i), i);
        }
    }

    private static void runNumbers() {
        due.sentence("At most so many instructions, 1 .. 5,000, are done: how many.");
        Bench b = echo();
        b.x.boot(7, 50);
        for (int n : new int[] {0, -1, 5001, 5002, MIN, MAX}) {
            due.is("run(" + n + ")", b.x.run(n), BAD);
        }
        due.is("they do nothing", b.x.told(3), 0);
        due.is("run(1)", b.x.run(1), 1);
        due.is("run(5000)", b.x.run(5000), 5000);
        due.is("run(4999)", b.x.run(4999), 4999);
        due.is("in all", b.x.told(3), 10000);
        due.is("a third of them put out", b.x.told(7), 3333);
    }

    private static void nothingBooted() {
        due.sentence("BAD: another number; nothing was booted.");
        due.is("of a new object", new PocketMachine().run(1), BAD);
        Bench b = echo();
        due.is("an image is linked", b.x.run(1), BAD);
        due.is("of 5,000", b.x.run(5000), BAD);
        b.x.boot(1, 49);
        due.is("a refused boot", b.x.run(1), BAD);
        b.x.boot(1, 50);
        due.is("a boot", b.x.run(1), 1);
    }

    private static void allEnded() {
        due.sentence("(Fewer: all threads ended or wait.)");
        Bench b = bench();
        b.met(0, 0, 0, 0, 0, 1, 0, 0, 40, 0);
        b.x.link(b.main(0, 26, 0, 48, 0, 40, 0));
        b.x.boot(2, 50);
        due.is("as many as there are", b.x.run(5), 5);
        due.is("none is left", b.x.run(1), 0);
        b.x.boot(2, 50);
        due.is("one more than there are", b.x.run(6), 5);
        due.is("none is left", b.x.run(5000), 0);
        due.is("told(3)", b.x.told(3), 5);
        b.x.boot(2, 50);
        due.is("one less", b.x.run(4), 4);
        due.is("one is left", b.x.run(5000), 1);
    }

    private static void allWait() {
        due.sentence("(Fewer: all threads ended or wait.)");
        Bench b = bench();
        b.met(0, 0, 0, 0, 0, 1, 54, 0, 49, 0, 54, 1, 49, 0, 40, 0);
        b.x.link(b.main(0, 26, 0, 55, 0, 26, 0, 55, 1, 54, 1, 49, 0, 26, 0, 48, 0, 51, 0, 54, 0, 49, 0, 40, 0));
        b.x.boot(50, 200);
        due.is("until both wait", b.x.run(5000), 9 + 3 + 1);
        due.is("thread 0", b.x.thread(0, 0), 1);
        due.is("thread 1", b.x.thread(1, 0), 1);
        due.is("none can be done", b.x.run(1), 0);
        due.yes("an input changes nothing", b.x.input(1));
        due.is("none can be done", b.x.run(5000), 0);
    }

    private static void outNumbers() {
        due.sentence("The i-th int that went out, of the first 300. NONE (which may be one, too): none such.");
        Bench b = echo();
        due.is("nothing was booted", b.x.out(0), NONE);
        b.x.boot(9, 50);
        due.is("nothing went out", b.x.out(0), NONE);
        b.x.input(4);
        b.x.input(5);
        b.x.run(5);
        due.is("out(- 1)", b.x.out(-1), NONE);
        due.is("out(0)", b.x.out(0), 4);
        due.is("out(1)", b.x.out(1), 5);
        for (int i : new int[] {2, 299, 300, MIN, MAX, -2}) {
            due.is("out(" + i + ")", b.x.out(i), NONE);
        }
    }

    private static void threeHundred() {
        due.sentence("of the first 300");
        Bench b = bench();
        b.x.link(b.main(1, 1, 1, 3, 0, 2, 0, 46, 0, 2, 0, 1, 1, 4, 0, 3, 0, 19, 2));
        b.x.boot(9, 50);
        b.x.run(2 + 7 * 299);
        due.is("299 went out", b.x.told(7), 299);
        due.is("out(298)", b.x.out(298), 299);
        due.is("out(299)", b.x.out(299), NONE);
        b.x.run(7);
        due.is("the 300th", b.x.out(299), 300);
        due.is("out(300)", b.x.out(300), NONE);
        b.x.run(7);
        due.is("301 went out", b.x.told(7), 301);
        due.is("the 301st is not kept", b.x.out(300), NONE);
        due.is("out(301)", b.x.out(301), NONE);
        due.is("the 300th stays", b.x.out(299), 300);
        due.is("the first stays", b.x.out(0), 1);
        b.x.run(5000);
        due.is("far more", b.x.told(7), 301 + 715);
        due.is("the first stays", b.x.out(0), 1);
    }

    private static void noneMayBeOne() {
        due.sentence("NONE (which may be one, too)");
        Bench b = echo();
        b.x.boot(9, 50);
        b.x.input(NONE);
        b.x.input(BAD);
        b.x.run(6);
        due.is("- 2 went out", b.x.out(0), -2);
        due.is("- 1 went out", b.x.out(1), -1);
        due.is("two of them", b.x.told(7), 2);
    }

    /** Thread 0 begins two more and goes on; 0, 1 and 2 put out their number without end, four instructions a round. */
    private static Bench three(int quantum) {
        Bench b = bench();
        b.met(0, 0, 0, 0, 0, 1, 2, 0, 27, 0, 46, 0, 19, 0);
        b.x.link(b.main(1, 26, 0, 3, 0, 2, 0, 1, 1, 28, 0, 2, 0, 48, 0,
                26, 0, 3, 0, 2, 0, 1, 2, 28, 0, 2, 0, 48, 0, 52, 0, 0, 0, 46, 0, 19, 14));
        b.x.boot(quantum, 100);
        return b;
    }

    private static void turnsOfQuantum() {
        due.sentence("a turn (one that run() cuts goes on at the next run()) ends after QUANTUM instructions");
        Bench b = three(50);
        b.x.run(50);
        due.text("thread 0 for 50", b.outs(), "0 0 0 0 0 0 0 0 0");
        b.x.run(3);
        due.text("then thread 1", b.outs(), "0 0 0 0 0 0 0 0 0 1");
        b.x.run(47);
        due.is("it has 50, too", b.x.out(20), 1);
        due.is("12 outs of it", b.x.told(7), 21);
        b.x.run(3);
        due.is("then thread 2", b.x.out(21), 2);
        Bench one = three(1);
        // Thread 1 is begun at the 7th of thread 0; then they take turns.
        one.x.run(7);
        due.is("two threads", one.x.told(4), 2);
        one.x.run(13);
        due.is("7 more of thread 0 are done by then", one.x.told(4), 2);
        one.x.run(1);
        due.is("the third thread", one.x.told(4), 3);
        due.text("thread 1 put out at its 3rd and its 7th", one.outs(), "1 1");
        one.x.run(3 * 4);
        due.text("one instruction each", one.outs(), "1 1 2 0 1");
    }

    private static void turnsThatAreCut() {
        due.sentence("(one that run() cuts goes on at the next run())");
        for (int quantum : new int[] {1, 2, 7, 49, 50}) {
            Bench whole = three(quantum);
            whole.x.run(400);
            for (int cut : new int[] {1, quantum - 1, quantum, quantum + 1, 399}) {
                Bench b = three(quantum);
                int left = 400;
                while (cut > 0 && left > 0) {
                    left -= b.x.run(Math.min(cut, left));
                }
                due.text("quantum " + quantum + ", runs of " + cut, cut > 0 ? b.outs() : whole.outs(), whole.outs());
            }
        }
    }

    private static void turnEndsAt51() {
        due.sentence("51 the thread's turn ends.");
        Bench b = bench();
        b.met(0, 0, 0, 0, 0, 1, 1, 1, 46, 0, 51, 0, 19, 0);
        b.x.link(b.main(0, 26, 0, 48, 0, 1, 0, 46, 0, 51, 0, 19, 2));
        b.x.boot(50, 50);
        due.is("51 is an instruction", b.x.run(5), 5);
        due.text("thread 0", b.outs(), "0");
        b.x.run(2);
        due.text("thread 1 follows", b.outs(), "0 1");
        b.x.run(1 + 3);
        due.text("and thread 0 again", b.outs(), "0 1 0");
        Bench last = bench();
        last.met(0, 0, 0, 0, 0, 1, 1, 1, 46, 0, 19, 0);
        last.x.link(last.main(0, 26, 0, 48, 0, 51, 0, 1, 0, 46, 0, 19, 3));
        last.x.boot(3, 50);
        last.x.run(3);
        last.x.run(3);
        due.text("51 as the last of a turn ends no second one", last.outs(), "1");
        last.x.run(2);
        due.text("then thread 0", last.outs(), "1 0");
        Bench alone = bench();
        alone.x.link(alone.main(0, 51, 0, 19, 0));
        alone.x.boot(1, 50);
        due.is("a thread alone has the next turn, too", alone.x.run(5000), 5000);
    }

    private static void turnOfOneThatEnds() {
        due.sentence("at 51, when it ends or must wait");
        Bench b = bench();
        b.met(0, 0, 0, 0, 0, 1, 1, 1, 46, 0, 40, 0);
        b.x.link(b.main(0, 26, 0, 48, 0, 26, 0, 48, 0, 51, 0, 1, 0, 46, 0, 19, 5));
        b.x.boot(50, 50);
        b.x.run(5 + 3 + 3);
        due.text("two end in the midst of their turns", b.outs(), "1 1");
        b.x.run(2);
        due.text("the next has its own", b.outs(), "1 1 0");
        due.is("thread 1 ended", b.x.thread(1, 0), 2);
        due.is("thread 2 ended", b.x.thread(2, 0), 2);
        Bench full = bench();
        full.met(0, 0, 0, 0, 0, 1, 1, 1, 46, 0, 19, 0);
        full.x.link(full.main(0, 26, 0, 48, 0, 40, 0));
        full.x.boot(4, 50);
        full.x.run(3 + 4);
        due.text("what is left of a turn is not the next one's", full.outs(), "1");
        full.x.run(1);
        due.text("its turns are whole", full.outs(), "1 1");
    }

    private static void turnOfOneThatWaits() {
        due.sentence("(a thread whose next instruction is 49 of a monitor that another one has entered is passed over, "
                + "and uses no instruction)");
        Bench b = bench();
        b.met(0, 0, 0, 0, 0, 1, 54, 0, 49, 0, 1, 1, 46, 0, 54, 0, 50, 0, 40, 0);
        b.x.link(b.main(0, 26, 0, 55, 0, 54, 0, 49, 0, 26, 0, 48, 0, 0, 0, 0, 0, 54, 0, 50, 0, 1, 0, 46, 0, 0, 0, 19, 12));
        b.x.boot(7, 50);
        b.x.run(7);
        due.is("thread 0 has had its turn", b.x.thread(1, 0), 0);
        b.x.run(1);
        due.is("thread 1 waits behind one instruction", b.x.thread(1, 0), 1);
        b.x.run(1);
        due.is("it is thread 0's turn", b.x.thread(1, 0), 1);
        due.is("none is lost", b.x.told(3), 9);
        b.x.run(2);
        due.is("the monitor is left: thread 1 goes on", b.x.thread(1, 0), 0);
        due.text("but the turn of thread 0 goes on, too", b.outs(), "");
        b.x.run(4);
        due.text("up to its end", b.outs(), "0");
        b.x.run(3);
        due.text("then thread 1", b.outs(), "0 1");
    }

    private static void fromTheOneBehind() {
        due.sentence("Threads go in turn by their number, from the one behind that which had the last turn");
        Bench b = bench();
        b.met(0, 0, 0, 0, 0, 1, 2, 0, 27, 0, 46, 0, 51, 0, 19, 0);
        int m = b.main(2, 1, 1, 3, 0, 26, 0, 3, 1, 2, 1, 2, 0, 28, 0, 2, 1, 48, 0, 2, 0, 1, 1, 4, 0, 16, 0, 3, 0,
                1, 6, 25, 2, 1, 0, 46, 0, 51, 0, 19, 16);
        b.x.link(m);
        b.x.boot(50, 100);
        b.x.run(200);
        due.is("six threads", b.x.told(4), 6);
        b.x.run(200);
        String text = b.outs();
        due.yes("in their order, round and round: " + text, (text + " ").contains("0 1 2 3 4 5 0 1 2 3 4 5 0 1 2 3 4 5 0 "));
    }

    private static void twentyMethods() {
        due.sentence("A thread has at most 20 methods one in another (more: 9).");
        Bench b = bench();
        // Calls itself as often as the input says, then waits for no one.
        int m = b.main(0, 47, 0, 53, 0, 38, 1, 40, 0);
        b.main(0, 52, 0, 20, 7, 52, 0, 1, 1, 5, 0, 53, 0, 38, 1, 0, 0, 40, 0);
        b.x.link(m);
        for (int calls : new int[] {17, 18, 19}) {
            b.x.boot(50, 50);
            b.x.input(calls);
            b.x.run(5000);
            due.is(2 + calls + " methods", b.x.thread(0, 0), calls <= 18 ? 2 : 3);
            due.is("exception", b.x.thread(0, 2), calls <= 18 ? 0 : -9);
        }
        b.x.boot(50, 50);
        b.x.input(18);
        b.x.run(3 + 18 * 7);
        due.is("20 one in another", b.x.thread(0, 1), 20);
        b.x.boot(50, 50);
        b.x.input(19);
        b.x.run(3 + 18 * 7 + 6);
        due.is("20, and one more call comes", b.x.thread(0, 1), 20);
        due.is("it goes on", b.x.thread(0, 0), 0);
        b.x.run(1);
        due.is("that is too much", b.x.thread(0, 0), 3);
        due.is("none is left", b.x.thread(0, 1), 0);
        Bench two = bench();
        two.met(0, 0, 0, 0, 0, 1, 38, 1, 40, 0);
        two.main(0, 52, 0, 1, 1, 4, 0, 53, 0, 38, 1, 40, 0, 17, 0, 19, 7);
        two.x.trap(4, 5, 6, -10);
        two.x.link(two.main(0, 26, 0, 48, 0, 38, 1, 40, 0));
        two.x.boot(50, 100);
        two.x.run(1000);
        due.is("each thread has 20", two.x.thread(0, 1), 20);
        due.is("of its own", two.x.thread(1, 1), 20);
    }
}
