/** The boundary cases of promise 14, and of 48 .. 50: threads and monitors. */
public final class ThreadEdgesTest {
    private static final int BAD = PocketMachine.BAD, NONE = PocketMachine.NONE;
    private static final int MIN = Integer.MIN_VALUE, MAX = Integer.MAX_VALUE;
    private static final Due due = new Due("thread edges");

    public static void main(String[] args) {
        threadsThatThereAre();
        whatIsAsked();
        states();
        howManyMethods();
        exceptions();
        classesOfTheSource();
        beginsOfNull();
        sixThreads();
        orderOfExceptions();
        nullMonitors();
        leftByAnother();
        enteredAndLeft();
        sixtyThousand();
        afterTheEnd();
        waitingNow();
        monitorsOfOthers();
        due.end();
    }

    /** Classes 0 (name 0 goes on without end), 1 below it, 2 apart. */
    private static Bench bench(int... code) {
        Bench b = new Bench();
        b.cls(BAD, 1, 1);
        b.cls(0, 0, 0);
        b.cls(BAD, 0, 0);
        b.met(0, 0, 0, 0, 0, 1, code);
        return b;
    }

    private static Bench started(int quantum, Bench b, int main) {
        due.yes("it links", b.x.link(main) > 0);
        due.yes("it boots", b.x.boot(quantum, 8000));
        return b;
    }

    private static void threadsThatThereAre() {
        due.sentence("BAD: none such.");
        PocketMachine x = new PocketMachine();
        due.is("nothing was booted", x.thread(0, 0), BAD);
        Bench b = bench(19, 0);
        int m = b.main(0, 26, 0, 48, 0, 19, 0, 17, 0, 19, 4);
        b.x.trap(0, 3, 3, -8);
        due.is("linked, not booted", b.x.link(m) > 0 ? b.x.thread(0, 0) : 9, BAD);
        b.x.boot(3, 8000);
        for (int begun = 1; begun <= 6; begun++) {
            for (int t : new int[] {-1, -2, begun, begun + 1, 6, 7, MIN, MAX}) {
                for (int what = 0; what <= 2; what++) {
                    due.is("thread(" + t + ", " + what + ") of " + begun, b.x.thread(t, what), BAD);
                }
            }
            due.is("the first", b.x.thread(0, 0), 0);
            due.is("the last", b.x.thread(begun - 1, 0), 0);
            for (int i = 0; i < 200 && b.x.told(4) == begun && begun < 6; i++) {
                b.x.run(1);
            }
        }
        due.is("six", b.x.told(4), 6);
        b.x.run(500);
        due.is("still six", b.x.told(4), 6);
        due.is("thread(6, 0)", b.x.thread(6, 0), BAD);
        b.x.boot(3, 8000);
        due.is("behind boot there is one", b.x.thread(1, 0), BAD);
    }

    private static void whatIsAsked() {
        due.sentence("Of a thread: 0 whether it goes on (0), waits for a monitor now (1), ended (2), ended by an exception (3)");
        Bench b = bench(40, 0);
        started(5, b, b.main(0, 40, 0));
        for (int what : new int[] {-1, -2, 3, 4, MIN, MAX}) {
            due.is("what " + what, b.x.thread(0, what), BAD);
        }
        for (int what = 0; what <= 2; what++) {
            due.yes("what " + what, b.x.thread(0, what) != BAD);
        }
        b.x.run(1);
        due.is("what 3 of one that ended", b.x.thread(0, 3), BAD);
    }

    private static void states() {
        due.sentence("0 whether it goes on (0), waits for a monitor now (1), ended (2), ended by an exception (3)");
        Bench b = bench(54, 0, 49, 0, 40, 0);
        b.met(2, 0, 0, 0, 0, 1, 45, 0, 43, 0);
        started(50, b, b.main(0, 26, 0, 16, 0, 55, 0, 49, 0, 26, 0, 48, 0, 26, 2, 48, 0, 51, 0, 47, 0, 20, 9, 40, 0));
        due.text("booted", b.threads(), "0/1/0");
        b.x.run(9);
        due.text("two more begun", b.threads(), "0/1/0 0/1/0 0/1/0");
        b.x.run(1);
        due.text("thread 1 waits before 49", b.threads(), "0/1/0 1/1/0 0/1/0");
        b.x.run(1);
        due.text("thread 2 goes on", b.threads(), "0/1/0 1/1/0 0/1/0");
        b.x.run(1);
        due.text("it is ended by null", b.threads(), "0/1/0 1/1/0 3/0/-1");
        b.x.input(1);
        b.x.run(3);
        due.text("thread 0 ended, thread 1 waits for ever", b.threads(), "2/0/0 1/1/0 3/0/-1");
        due.is("none goes on", b.x.run(1), 0);
    }

    private static void howManyMethods() {
        due.sentence("1 how many methods are one in another (0 when it has ended)");
        Bench b = bench(40, 0);
        int one = b.main(0, 0, 0, 40, 0);
        int two = b.main(0, 38, one, 40, 0);
        started(5, b, b.main(0, 38, two, 40, 0));
        int[] want = {1, 2, 3, 3, 2, 1, 0};
        for (int i = 0; i < want.length; i++) {
            due.is("behind " + i, b.x.thread(0, 1), want[i]);
            b.x.run(1);
        }
        Bench c = bench(40, 0);
        int thrower = c.main(0, 45, 0, 43, 0);
        started(5, c, c.main(0, 38, thrower, 40, 0));
        c.x.run(2);
        due.is("two", c.x.thread(0, 1), 2);
        c.x.run(1);
        due.is("ended by an exception", c.x.thread(0, 1), 0);
    }

    /** For exception k: something that meets it as the last thing. */
    private static int[] meets(int k) {
        switch (k) {
            case 1: return new int[] {45, 0, 43, 0};
            case 2: return new int[] {1, 1, 1, 0, 7, 0, 17, 0, 40, 0};
            case 3: return new int[] {26, 2, 27, 0, 17, 0, 40, 0};
            case 4: return new int[] {1, 201, 31, 0, 17, 0, 40, 0};
            case 5: return new int[] {1, 1, 31, 0, 1, 1, 32, 0, 17, 0, 40, 0};
            case 6: return new int[] {26, 2, 48, 0, 40, 0};
            case 7: return new int[] {26, 0, 48, 0, 19, 0};
            case 8: return new int[] {26, 2, 50, 0, 40, 0};
            default: return new int[] {1, 200, 35, 0, 55, 0, 1, 200, 31, 0, 54, 0, 1, 0, 36, 0, 43, 0};
        }
    }

    private static void exceptions() {
        due.sentence("2 the exception by which it ended: - k");
        for (int k = 1; k <= 9; k++) {
            Bench b = bench(40, 0);
            int m = b.main(0, meets(k));
            b.x.link(m);
            b.x.boot(50, 500);
            due.is("before " + k, b.x.thread(0, 2), 0);
            b.x.run(100);
            due.is("exception " + k, b.x.thread(0, 2), -k);
            due.is("ended by it", b.x.thread(0, 0), 3);
            due.is("no method", b.x.thread(0, 1), 0);
        }
    }

    private static void classesOfTheSource() {
        due.sentence("or 100 and the class (of the source) of the object, 110 for an array, "
                + "0 when it goes on or ended by its return.");
        Bench b = new Bench();
        for (int c = 0; c < 10; c++) {
            b.cls(c % 2 == 0 ? BAD : c - 1, 0, 0);
        }
        for (int c = 0; c < 10; c++) {
            due.text("class " + c, b.result(b.main(0, 26, c, 43, 0)), " by " + (100 + c));
            due.is("the image has fewer", b.x.image(2), c % 2 == 0 ? 1 : 2);
        }
        due.text("ints", b.result(b.main(0, 1, 0, 31, 0, 43, 0)), " by 110");
        due.text("references", b.result(b.main(0, 1, 200, 35, 0, 43, 0)), " by 110");
        due.text("by its return", b.result(b.main(0, 40, 0)), "");
        due.is("0", b.x.thread(0, 2), 0);
        b.x.link(b.main(0, 26, 9, 43, 0));
        b.x.boot(5, 50);
        b.x.run(5);
        b.x.link(b.main(0, 40, 0));
        due.is("whatever is linked then", b.x.thread(0, 2), 109);
    }

    private static void beginsOfNull() {
        due.sentence("48 takes R: a thread begins with its method of name 0, which has no arguments (null: 1; no method: 6; "
                + "6 threads were begun already: 7).");
        Bench b = bench(2, 0, 27, 0, 46, 0, 40, 0);
        due.text("null", b.result(b.main(0, 45, 0, 48, 0, 40, 0)), " by -1");
        due.text("no method", b.result(b.main(0, 26, 2, 48, 0, 40, 0)), " by -6");
        due.text("ints", b.result(b.main(0, 1, 1, 31, 0, 48, 0, 40, 0)), " by -6");
        due.text("references", b.result(b.main(0, 1, 1, 35, 0, 48, 0, 40, 0)), " by -6");
        due.is("none was begun", b.x.told(4), 1);
        due.text("a method above", b.result(b.main(1, 26, 1, 3, 0, 2, 0, 1, 44, 28, 0, 2, 0, 48, 0, 40, 0)), "44");
        due.is("one was begun", b.x.told(4), 2);
    }

    private static void sixThreads() {
        due.sentence("6 threads were begun already: 7");
        for (int ends = 0; ends <= 1; ends++) {
            Bench b = ends == 0 ? bench(19, 0) : bench(40, 0);
            int m = b.main(0, 26, 0, 48, 0, 52, 0, 1, 1, 4, 0, 53, 0, 51, 0, 19, 0);
            started(50, b, m);
            b.x.run(5000);
            due.is("main and five more", b.x.told(4), 6);
            due.is("a sixth more is too many", b.x.thread(0, 2), -7);
            due.is("thread 5", b.x.thread(5, 0), ends == 0 ? 0 : 2);
            due.is("thread 6", b.x.thread(6, 0), BAD);
        }
        // Main and four more; the fifth more is begun by one of them.
        Bench c = bench(52, 0, 1, 1, 4, 0, 16, 0, 53, 0, 1, 7, 25, 8, 40, 0, 26, 0, 48, 0, 40, 0);
        c.result(c.main(0, 26, 0, 48, 0, 40, 0));
        due.is("each begins the next", c.x.told(4), 6);
        due.is("the fifth begins none", c.x.thread(5, 2), -7);
        due.is("the fourth did", c.x.thread(4, 2), 0);
    }

    private static void orderOfExceptions() {
        due.sentence("(null: 1; no method: 6; 6 threads were begun already: 7)");
        int[] five = {26, 0, 48, 0, 26, 0, 48, 0, 26, 0, 48, 0, 26, 0, 48, 0, 26, 0, 48, 0};
        int[][] rows = {{45, 0, -1}, {26, 2, -6}, {26, 0, -7}, {26, 1, -7}};
        for (int[] row : rows) {
            Bench b = bench(40, 0);
            int m = b.main(0, five);
            b.x.code(row[0], row[1]);
            b.x.code(48, 0);
            b.x.code(40, 0);
            due.text("behind five", b.result(m), " by " + row[2]);
            due.is("six threads", b.x.told(4), 6);
        }
    }

    private static void nullMonitors() {
        due.sentence("49, 50 take R: its monitor is entered, left, once more, once less (null: 1;");
        Bench b = bench(40, 0);
        due.text("49", b.result(b.main(0, 45, 0, 49, 0, 40, 0)), " by -1");
        due.text("50", b.result(b.main(0, 45, 0, 50, 0, 40, 0)), " by -1");
    }

    private static void leftByAnother() {
        due.sentence("50 by a thread that has not entered it");
        Bench b = bench(54, 0, 50, 0, 40, 0);
        due.text("no one has entered it", b.result(b.main(0, 26, 2, 50, 0, 40, 0)), " by -8");
        b.result(b.main(0, 26, 2, 16, 0, 55, 0, 49, 0, 26, 0, 48, 0, 51, 0, 54, 0, 50, 0, 40, 0));
        due.text("another one has", b.threads(), "2/0/0 3/0/-8");
        Bench c = bench(54, 0, 49, 0, 40, 0);
        c.result(c.main(0, 26, 2, 55, 0, 26, 0, 48, 0, 51, 0, 54, 0, 50, 0, 40, 0), 50, 500);
        due.text("one that ended has", c.threads(), "3/0/-8 2/0/0");
    }

    private static void enteredAndLeft() {
        due.sentence("its monitor is entered, left, once more, once less");
        Bench b = bench(40, 0);
        due.text("once, and once", b.result(b.main(0, 26, 2, 16, 0, 49, 0, 50, 0, 40, 0)), "");
        due.text("once, and twice",
                b.result(b.main(0, 26, 2, 16, 0, 49, 0, 16, 0, 50, 0, 50, 0, 40, 0)), " by -8");
        due.text("twice, and twice",
                b.result(b.main(0, 26, 2, 16, 0, 49, 0, 16, 0, 49, 0, 16, 0, 50, 0, 50, 0, 40, 0)), "");
        due.text("twice, and three times",
                b.result(b.main(0, 26, 2, 16, 0, 49, 0, 16, 0, 49, 0, 16, 0, 50, 0, 16, 0, 50, 0, 50, 0, 40, 0)), " by -8");
        due.text("entered again behind that", b.result(b.main(0, 26, 2, 16, 0, 49, 0, 16, 0, 50, 0, 16, 0, 49, 0, 50, 0, 40, 0)), "");
        // Another thread may enter once it was left as often as entered, and not before.
        for (int left = 1; left <= 2; left++) {
            Bench c = bench(54, 0, 49, 0, 1, 1, 46, 0, 40, 0);
            int m = c.main(0, 26, 2, 16, 0, 55, 0, 16, 0, 49, 0, 16, 0, 49, 0, 16, 0, 50, 0, left == 2 ? 50 : 17, 0,
                    26, 0, 48, 0, 40, 0);
            c.result(m, 50, 500);
            due.text("left " + left + " of 2 times", c.threads(), left == 2 ? "2/0/0 2/0/0" : "2/0/0 1/1/0");
        }
        due.text("an array of ints has one, too", b.result(b.main(0, 1, 0, 31, 0, 16, 0, 49, 0, 50, 0, 40, 0)), "");
        due.text("each object has its own", b.result(b.main(0, 26, 2, 49, 0, 26, 2, 50, 0, 40, 0)), " by -8");
    }

    private static void sixtyThousand() {
        due.sentence("49 when it has entered it 60,000 times more than left it: 8");
        Bench b = bench(40, 0);
        // Four instructions a round; the handler tells what is so far, leaves once, and enters once more.
        int m = b.main(1, 26, 2, 3, 0, 52, 0, 1, 1, 4, 0, 53, 0, 2, 0, 49, 0, 19, 2,
                17, 0, 52, 0, 46, 0, 2, 0, 50, 0, 2, 0, 49, 0, 1, 1, 46, 0, 2, 0, 49, 0, 1, 2, 46, 0, 40, 0);
        b.x.trap(7, 8, 9, -9);
        started(50, b, m);
        for (int n = 0; n < 100; n++) {
            b.x.run(5000);
        }
        due.text("the 60,001st is refused; one for one", b.outs(), "60001 1");
        due.text("and then none", b.threads(), "3/0/-8");
        due.yes("sound", b.x.sound());
        // 60,000 in, 60,000 out, then another thread may enter it.
        Bench d = bench(54, 0, 49, 0, 1, 7, 46, 0, 40, 0);
        int o = d.main(1, 26, 2, 55, 0, 1, 30000, 16, 0, 4, 0, 3, 0,
                54, 0, 49, 0, 2, 0, 1, 1, 5, 0, 16, 0, 3, 0, 22, 6,
                26, 0, 48, 0, 51, 0, 1, 30000, 16, 0, 4, 0, 1, 1, 5, 0, 3, 0,
                54, 0, 50, 0, 2, 0, 1, 1, 5, 0, 16, 0, 3, 0, 22, 23,
                1, 8, 46, 0, 51, 0, 1, 9, 46, 0, 54, 0, 50, 0, 40, 0);
        started(50, d, o);
        for (int i = 0; i < 400 && d.x.thread(1, 0) != 2; i++) {
            d.x.run(5000);
        }
        due.text("60,000 times entered, 59,999 times left, and once more", d.outs(), "8 9 7");
        due.text("both ended", d.threads(), "2/0/0 2/0/0");
    }

    private static void afterTheEnd() {
        due.sentence("one that a thread has entered stays so when the thread ends.");
        Bench b = bench(54, 0, 49, 0, 40, 0);
        b.met(2, 0, 0, 0, 0, 1, 54, 0, 49, 0, 45, 0, 43, 0);
        b.result(b.main(0, 26, 2, 55, 0, 26, 0, 48, 0, 51, 0, 54, 0, 49, 0, 40, 0), 50, 500);
        due.text("by its return", b.threads(), "1/1/0 2/0/0");
        b.result(b.main(0, 26, 2, 55, 0, 26, 2, 48, 0, 51, 0, 54, 0, 49, 0, 40, 0), 50, 500);
        due.text("by an exception", b.threads(), "1/1/0 3/0/-1");
    }

    private static void waitingNow() {
        due.sentence("waits for a monitor now (1)");
        Bench b = bench(54, 0, 0, 0, 49, 0, 40, 0);
        started(50, b, b.main(0, 26, 2, 55, 0, 26, 0, 48, 0, 54, 0, 49, 0, 51, 0, 0, 0, 54, 0, 50, 0, 19, 10));
        b.x.run(7);
        due.is("before its first", b.x.thread(1, 0), 0);
        b.x.run(1);
        due.is("two before 49", b.x.thread(1, 0), 0);
        b.x.run(1);
        due.is("before 49", b.x.thread(1, 0), 1);
        b.x.run(2);
        due.is("before 50", b.x.thread(1, 0), 1);
        b.x.run(1);
        due.is("behind 50", b.x.thread(1, 0), 0);
        Bench c = bench(40, 0);
        started(50, c, c.main(0, 26, 2, 16, 0, 49, 0, 49, 0, 40, 0));
        c.x.run(3);
        due.is("its own monitor", c.x.thread(0, 0), 0);
        c.x.run(1);
        due.is("is entered once more", c.x.thread(0, 0), 0);
        Bench d = bench(45, 0, 49, 0, 40, 0);
        started(50, d, d.main(0, 26, 0, 48, 0, 51, 0, 40, 0));
        d.x.run(4);
        due.is("null is no monitor to wait for", d.x.thread(1, 0), 0);
    }

    private static void monitorsOfOthers() {
        due.sentence("is passed over, and uses no instruction");
        Bench b = bench(54, 0, 49, 0, 1, 1, 46, 0, 40, 0);
        int m = b.main(0, 26, 2, 16, 0, 55, 0, 49, 0, 26, 0, 48, 0, 26, 0, 48, 0, 26, 0, 48, 0, 26, 0, 48, 0,
                26, 0, 48, 0, 47, 0, 20, 14, 54, 0, 50, 0, 40, 0);
        started(1, b, m);
        b.x.run(100);
        due.text("five wait", b.threads(), "0/1/0 1/1/0 1/1/0 1/1/0 1/1/0 1/1/0");
        due.is("all that is done is the first one's", b.x.run(50), 50);
        b.x.input(1);
        b.x.run(5000);
        due.text("the first of them enters, and stays so", b.threads(), "2/0/0 2/0/0 1/1/0 1/1/0 1/1/0 1/1/0");
        due.text("one went through", b.outs(), "1");
    }
}
