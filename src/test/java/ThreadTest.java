/** Promise 14: thread, with turns, monitors and what ends a thread. */
public final class ThreadTest {
    private static final int BAD = PocketMachine.BAD, NONE = PocketMachine.NONE;
    private static final Due due = new Due("thread");

    public static void main(String[] args) {
        edges();
        turns();
        turnsThatRunCuts();
        endOfTurn();
        sixThreads();
        beginning();
        monitors();
        monitorsCount();
        monitorsOfEnded();
        sixtyThousand();
        howItEnded();
        due.end();
    }

    private static String states(Bench b) {
        StringBuilder text = new StringBuilder();
        for (int t = 0; t < b.x.told(4); t++) {
            text.append(t == 0 ? "" : " ").append(b.x.thread(t, 0)).append('/').append(b.x.thread(t, 1));
            text.append('/').append(b.x.thread(t, 2));
        }
        return text.toString();
    }

    private static Bench bench() {
        Bench b = new Bench();
        b.cls(BAD, 1, 1);
        b.cls(0, 0, 0);
        b.cls(BAD, 0, 0);
        return b;
    }

    private static void edges() {
        Bench b = bench();
        due.is("nothing was booted", b.x.thread(0, 0), BAD);
        b.x.link(b.main(0, 40, 0));
        b.x.boot(5, 50);
        due.is("thread(- 1, 0)", b.x.thread(-1, 0), BAD);
        due.is("thread(1, 0)", b.x.thread(1, 0), BAD);
        due.is("thread(0, - 1)", b.x.thread(0, -1), BAD);
        due.is("thread(0, 3)", b.x.thread(0, 3), BAD);
        due.is("thread(2^31 - 1, 0)", b.x.thread(Integer.MAX_VALUE, 0), BAD);
        due.text("main", states(b), "0/1/0");
        b.x.run(1);
        due.text("main ended", states(b), "2/0/0");
    }

    /** Main begins two threads; all three put out their number without end, five instructions a round. */
    private static Bench three() {
        Bench b = bench();
        b.met(0, 0, 0, 0, 0, 1, 2, 0, 27, 0, 46, 0, 0, 0, 19, 0);
        int m = b.main(1, 26, 0, 3, 0, 2, 0, 1, 1, 28, 0, 2, 0, 48, 0,
                26, 0, 3, 0, 2, 0, 1, 2, 28, 0, 2, 0, 48, 0,
                1, 0, 46, 0, 0, 0, 0, 0, 19, 14);
        b.x.link(m);
        return b;
    }

    private static void turns() {
        Bench b = three();
        b.x.boot(14, 500);
        b.x.run(14);
        due.is("two more were begun", b.x.told(4), 3);
        due.text("they have not run", b.outs(), "");
        b.x.run(14);
        due.text("the first turn of thread 1", b.outs(), "1 1 1");
        b.x.run(14);
        due.text("then of 2", b.outs(), "1 1 1 2 2 2");
        b.x.run(14);
        due.text("then of 0", b.outs(), "1 1 1 2 2 2 0 0 0");
        b.x.run(5);
        due.text("1 goes on where it was", b.outs(), "1 1 1 2 2 2 0 0 0 1");
        Bench c = three();
        c.x.boot(5, 500);
        c.x.run(10);
        due.is("thread 1 is begun in the second turn of 0", c.x.told(4), 2);
        due.text("and has not run", c.outs(), "");
        c.x.run(5);
        due.text("its turn follows", c.outs(), "1");
        c.x.run(5 + 5 + 5);
        due.text("thread 2 is begun in the third turn of 0, and follows thread 1", c.outs(), "1 1 2");
    }

    private static void turnsThatRunCuts() {
        Bench whole = three();
        whole.x.boot(7, 500);
        whole.x.run(1000);
        for (int cut = 1; cut <= 20; cut += 3) {
            Bench b = three();
            b.x.boot(7, 500);
            int done = 0;
            while (done < 1000) {
                done += b.x.run(Math.min(cut, 1000 - done));
            }
            due.text("runs of " + cut, b.outs(), whole.outs());
        }
    }

    private static void endOfTurn() {
        Bench b = bench();
        b.met(0, 0, 0, 0, 0, 1, 1, 1, 46, 0, 51, 0, 19, 0);
        int m = b.main(1, 26, 0, 48, 0, 1, 0, 46, 0, 51, 0, 19, 2);
        b.x.link(m);
        b.x.boot(50, 500);
        due.is("run(5)", b.x.run(5), 5);
        b.x.run(12);
        due.text("51 ends a turn", b.outs(), "0 1 0 1");
        due.is("a turn of one behind another, the same thread twice", alone(), 40);
    }

    private static int alone() {
        Bench b = bench();
        b.x.link(b.main(1, 51, 0, 19, 0));
        b.x.boot(3, 50);
        return b.x.run(40);
    }

    private static void sixThreads() {
        Bench b = bench();
        b.met(0, 0, 0, 0, 0, 1, 19, 0);
        int m = b.main(1, 26, 0, 48, 0, 52, 0, 1, 1, 4, 0, 53, 0, 19, 0, 52, 0, 46, 0, 43, 0);
        b.x.trap(0, 7, 7, -8);
        b.x.link(m);
        b.x.boot(50, 500);
        b.x.run(45);
        due.is("main and five more", b.x.told(4), 6);
        due.text("exception 7 at the sixth", b.outs(), "5");
        due.is("thread 5", b.x.thread(5, 0), 0);
        due.is("thread 6", b.x.thread(6, 0), BAD);
        b.x.run(5000);
        due.is("null was thrown on", b.x.thread(0, 2), -1);
        Bench c = bench();
        c.met(0, 0, 0, 0, 0, 1, 40, 0);
        int n = c.main(1, 26, 0, 48, 0, 51, 0, 19, 0);
        due.text("those that ended count", c.result(n), " by -7");
        due.is("all six", c.x.told(4), 6);
        Bench d = bench();
        d.met(0, 0, 0, 0, 0, 1, 40, 0);
        int o = d.main(1, 26, 0, 48, 0, 52, 0, 1, 1, 4, 0, 16, 0, 53, 0, 1, 5, 25, 0, 26, 2, 48, 0, 40, 0);
        due.text("no method comes before too many threads", d.result(o), " by -6");
    }

    private static void beginning() {
        Bench b = bench();
        b.met(0, 0, 0, 0, 2, 3, 2, 0, 27, 0, 46, 0, 2, 0, 42, 0);
        int m = b.main(1, 26, 1, 3, 0, 2, 0, 1, 33, 28, 0, 2, 0, 48, 0, 40, 0);
        due.text("the receiver is the first local", b.result(m), "33");
        due.text("what it returns is nobody's", states(b), "2/0/0 2/0/0");
        due.text("48 of null", b.result(b.main(1, 45, 0, 48, 0, 40, 0)), " by -1");
        due.text("48 of a class without name 0", b.result(b.main(1, 26, 2, 48, 0, 40, 0)), " by -6");
        due.text("48 of an array", b.result(b.main(1, 1, 1, 35, 0, 48, 0, 40, 0)), " by -6");
        due.is("no thread began", b.x.told(4), 1);
    }

    private static void monitors() {
        Bench b = bench();
        b.met(0, 0, 0, 0, 0, 1, 54, 0, 49, 0, 1, 1, 46, 0, 54, 0, 50, 0, 40, 0);
        int m = b.main(1, 26, 0, 55, 0, 54, 0, 49, 0, 26, 0, 48, 0, 47, 0, 20, 6, 1, 2, 46, 0, 54, 0, 50, 0,
                1, 3, 46, 0, 19, 12);
        b.x.link(m);
        b.x.boot(4, 500);
        b.x.run(8);
        due.text("thread 1 has not come to 49", states(b), "0/1/0 0/1/0");
        b.x.run(1);
        due.text("it waits now", states(b), "0/1/0 1/1/0");
        due.is("others go on", b.x.run(50), 50);
        due.text("it still waits", states(b), "0/1/0 1/1/0");
        b.x.input(1);
        b.x.run(6);
        b.x.run(40);
        due.yes("it went on: " + b.outs(), b.outs().startsWith("2 "));
        due.is("thread 1 ended", b.x.thread(1, 0), 2);
        due.is("thread 0 goes on", b.x.thread(0, 0), 0);
        Bench c = bench();
        c.met(0, 0, 0, 0, 0, 1, 54, 0, 49, 0, 51, 0, 54, 1, 49, 0, 40, 0);
        int n = c.main(1, 26, 0, 55, 0, 26, 0, 55, 1, 26, 0, 48, 0, 54, 1, 49, 0, 51, 0, 54, 0, 49, 0, 40, 0);
        c.x.link(n);
        c.x.boot(50, 500);
        due.is("both wait for each other: what was done", c.x.run(5000), 9 + 3 + 1 + 1);
        due.text("both wait", states(c), "1/1/0 1/1/0");
        due.is("nothing more", c.x.run(5000), 0);
        due.text("null does not wait", nullMonitor(), " by -1");
    }

    private static String nullMonitor() {
        Bench b = bench();
        return b.result(b.main(0, 45, 0, 49, 0, 40, 0));
    }

    private static void monitorsCount() {
        Bench b = bench();
        due.text("left more often than entered",
                b.result(b.main(1, 26, 0, 3, 0, 2, 0, 49, 0, 2, 0, 49, 0, 2, 0, 50, 0, 2, 0, 50, 0, 1, 1, 46, 0,
                        2, 0, 50, 0, 40, 0)), "1 by -8");
        due.text("50 of null", b.result(b.main(1, 45, 0, 50, 0, 40, 0)), " by -1");
        due.text("an array has one, too", b.result(b.main(1, 1, 0, 31, 0, 16, 0, 49, 0, 50, 0, 40, 0)), "");
        Bench c = bench();
        c.met(0, 0, 0, 0, 0, 1, 54, 0, 50, 0, 40, 0);
        c.result(c.main(1, 26, 0, 16, 0, 55, 0, 49, 0, 26, 0, 48, 0, 40, 0));
        due.text("50 by a thread that has not entered it", states(c), "2/0/0 3/0/-8");
        Bench d = bench();
        d.met(0, 0, 0, 0, 0, 1, 54, 0, 49, 0, 1, 1, 46, 0, 40, 0);
        d.result(d.main(1, 26, 0, 16, 0, 55, 0, 16, 0, 49, 0, 16, 0, 49, 0, 50, 0, 26, 0, 48, 0, 51, 0, 40, 0), 50, 500);
        due.text("entered twice, left once", states(d), "2/0/0 1/1/0");
    }

    private static void monitorsOfEnded() {
        Bench b = bench();
        b.met(0, 0, 0, 0, 0, 1, 54, 0, 49, 0, 40, 0);
        int m = b.main(1, 26, 0, 55, 0, 26, 0, 48, 0, 51, 0, 26, 0, 48, 0, 51, 0, 40, 0);
        b.result(m, 50, 500);
        due.text("it stays entered when its thread ends", states(b), "2/0/0 2/0/0 1/1/0");
        due.is("nothing is left to do", b.x.run(10), 0);
    }

    private static void sixtyThousand() {
        Bench b = bench();
        int m = b.main(1, 26, 0, 3, 0, 2, 0, 49, 0, 52, 0, 1, 1, 4, 0, 53, 0, 19, 2, 17, 0, 52, 0, 46, 0,
                2, 0, 50, 0, 2, 0, 49, 0, 1, 4, 46, 0, 2, 0, 49, 0, 40, 0);
        b.x.trap(3, 4, 9, -9);
        b.x.link(m);
        b.x.boot(50, 500);
        for (int n = 0; n < 90; n++) {
            b.x.run(5000);
        }
        due.text("60,000 times", b.outs(), "60000 4");
        due.text("and not once more", states(b), "3/0/-8");
    }

    private static void howItEnded() {
        Bench b = bench();
        b.met(0, 0, 0, 0, 0, 1, 2, 0, 43, 0);
        int deep = b.main(0, 19, 0);
        int m = b.main(1, 26, 1, 48, 0, 38, deep, 40, 0);
        b.x.link(m);
        b.x.boot(5, 500);
        b.x.run(100);
        due.text("one is ended by an object of class 1, the other is two methods deep", states(b), "0/2/0 3/0/101");
        due.is("link changes nothing there", b.x.link(deep), 9 + 9 + 3);
        due.text("so it is still", states(b), "0/2/0 3/0/101");
        b.x.boot(5, 500);
        due.text("boot begins anew", states(b), "0/1/0");
    }
}
