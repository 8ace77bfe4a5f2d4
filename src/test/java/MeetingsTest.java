/** Where two sentences of the document meet: every test quotes both of them. */
public final class MeetingsTest {
    private static final int BAD = PocketMachine.BAD, NONE = PocketMachine.NONE;
    private static final String STAYS = "What was linked stays then.";
    private static final String GOES_ON = "What runs goes on as it was booted, whatever is linked.";
    private static final String GONE = "all that went out, and inputs, are gone";
    private static final String CUT = "a turn (one that run() cuts goes on at the next run())";
    private static final String CALLER =
            "An exception that a method has no trap for ends it, and is one of its caller at the call";
    private static final String STILL_ENTERED = "one that a thread has entered stays so when the thread ends";
    private static final String COLLECTION = "those that no static, no local (as long as the reference stands in it) and "
            + "no value on a stack of a method that goes on, and no field or place of one that stays leads to, go, "
            + "all at once (a COLLECTION)";
    private static final Due due = new Due("meetings");

    public static void main(String[] args) {
        wrongLinkAndImage();
        wrongLinkAndCheck();
        wrongLinkAndBoot();
        wrongLinkBeforeAny();
        linkWhileItRuns();
        linkAndCheckWhileItRuns();
        bootBehindOtherLinks();
        lengthWhileItRuns();
        goneAndInput();
        goneAndOut();
        goneAndTold();
        goneOnlyByBoot();
        cutsAndHowMany();
        cutsAndThreads();
        cutsBeforeAWait();
        callersAndDepth();
        callersAndHowItEnded();
        noCallerButABeginner();
        callersAndMonitors();
        endedByReturnAndWaiting();
        endedByExceptionAndWaiting();
        endedAndMoved();
        collectionsAndSound();
        collectionsAndWhatIsThere();
        collectionsThatDoNotHelp();
        noCollection();
        endedThreadsHoldNothing();
        due.end();
    }

    private static Bench bench() {
        Bench b = new Bench();
        b.cls(BAD, 1, 1);
        b.cls(0, 1, 0);
        b.cls(BAD, 0, 0);
        return b;
    }

    /** A main that puts out 5, and behind it (1 .. 6) mains that are wrong, each in its own way. */
    private static Bench goodAndWrong() {
        Bench b = bench();
        b.main(1, 26, 1, 3, 0, 1, 5, 46, 0, 40, 0);
        b.main(0);
        b.main(0, 40, 0);
        b.x.trap(0, 2, 0, -1);
        b.main(0, 0, 0, 17, 0);
        b.main(1, 26, 2, 17, 0, 38, 3, 40, 0);
        b.met(0, NONE, 1, 0, 0, 1, 40, 0);
        b.met(0, 3, 0, 0, 0, 1, 40, 0);
        return b;
    }

    /** What link() is due to answer of each of the wrong mains, and of one that there is not. */
    private static final int[] REFUSED = {0, -1100, -1299, -1301, -1301, BAD, BAD, BAD};

    private static void wrongLinkAndImage() {
        due.meeting(STAYS, "Byte i of the image, 0 .. 255. BAD: none such.");
        for (int wrong = 1; wrong < REFUSED.length; wrong++) {
            Bench b = goodAndWrong();
            int length = b.x.link(0);
            String image = b.image();
            due.is("link(" + wrong + ")", b.x.link(wrong), REFUSED[wrong]);
            due.text("its bytes", b.image(), image);
            due.is("the last one", b.x.image(length - 1), 40);
            due.is("one behind it", b.x.image(length), BAD);
            due.is("told(2)", b.x.told(2), length);
        }
    }

    private static void wrongLinkAndCheck() {
        due.meeting(STAYS, "else 0 it is the one that was linked last, byte by byte; else 4");
        for (int wrong = 1; wrong < REFUSED.length; wrong++) {
            Bench b = goodAndWrong();
            b.x.link(0);
            int[] bytes = b.bytes();
            for (int v : bytes) {
                b.x.feed(v);
            }
            b.x.link(wrong);
            due.is("what was collected stays, too", b.x.told(9), bytes.length);
            due.is("it is the one", b.x.check(), 0);
            due.is("once more", b.checked(bytes), 0);
        }
    }

    private static void wrongLinkAndBoot() {
        due.meeting(STAYS, "The image that was linked last begins to run");
        for (int wrong = 1; wrong < REFUSED.length; wrong++) {
            Bench b = goodAndWrong();
            b.x.link(0);
            b.x.link(wrong);
            due.yes("boot", b.x.boot(3, 50));
            due.is("run", b.x.run(100), 5);
            due.text("what went out", b.outs(), "5");
            due.is("told(5)", b.x.told(5), 18);
        }
    }

    private static void wrongLinkBeforeAny() {
        due.meeting(STAYS, "0 as long as nothing was linked, booted");
        Bench other = goodAndWrong();
        other.x.link(0);
        for (int wrong = 1; wrong < REFUSED.length; wrong++) {
            Bench b = goodAndWrong();
            b.x.link(wrong);
            due.is("told(2)", b.x.told(2), 0);
            due.is("no byte", b.x.image(0), BAD);
            due.no("boot", b.x.boot(3, 50));
            due.is("a right image is not the one", b.checked(other.bytes()), 4);
        }
    }

    /**
     * Threads, monitors, calls of both kinds, traps of a caller, inputs and collections. Main is method 4; it begins
     * two threads, of which the one that comes first ends with the monitor entered.
     */
    private static Bench busy(int quantum, int... inputs) {
        Bench b = bench();
        b.met(0, 0, 0, 0, 0, 1, 54, 0, 49, 0, 2, 0, 27, 0, 46, 0, 51, 0, 54, 0, 50, 0, 2, 0, 1, 3, 39, 1, 46, 0,
                1, 2, 38, 3, 40, 0, 44, 2, 46, 0, 54, 0, 49, 0, 40, 0);
        b.x.trap(13, 14, 15, 2);
        b.met(0, 1, 1, 0, 1, 2, 2, 1, 2, 0, 27, 0, 4, 0, 41, 0);
        b.met(1, 1, 1, 0, 1, 2, 1, 5, 31, 0, 17, 0, 2, 1, 1, 2, 6, 0, 41, 0);
        b.met(2, NONE, 1, 0, 0, 1, 2, 0, 22, 4, 26, 2, 43, 0, 2, 0, 1, 1, 5, 0, 38, 3, 40, 0);
        b.main(1, 26, 2, 55, 0, 26, 0, 3, 0, 2, 0, 1, 5, 28, 0, 2, 0, 48, 0, 26, 1, 3, 0, 2, 0, 1, 6, 28, 0, 2, 0, 48, 0,
                54, 0, 49, 0, 51, 0, 47, 0, 46, 0, 54, 0, 50, 0, 1, 3, 38, 3, 40, 0, 44, 2, 46, 0,
                1, 9, 35, 0, 17, 0, 47, 0, 16, 0, 46, 0, 22, 28, 45, 0, 43, 0);
        b.x.trap(24, 25, 26, 2);
        due.yes("it links", b.x.link(4) > 0);
        due.yes("it boots", b.x.boot(quantum, 80));
        for (int v : inputs) {
            due.yes("an input", b.x.input(v));
        }
        return b;
    }

    /** Tells more, so that all that was linked would be another: code, a trap, classes, methods that cover others. */
    private static void tellMore(Bench b) {
        b.x.code(40, 0);
        b.x.trap(0, 37, 26, -1);
        b.cls(0, 6, 6);
        b.met(1, 0, 0, 0, 0, 1, 1, 77, 46, 0, 40, 0);
        b.met(2, 1, 1, 0, 1, 2, 1, 78, 41, 0);
    }

    private static void linkWhileItRuns() {
        due.meeting(GOES_ON, "At most so many instructions, 1 .. 5,000, are done: how many.");
        for (int quantum : new int[] {1, 3, 50}) {
            Bench alone = busy(quantum, 4, 1, 2);
            int all = alone.x.run(5000);
            due.yes("some dozens: " + all, all > 80 && all < 200);
            for (int before = 1; before <= all; before++) {
                Bench b = busy(quantum, 4, 1, 2);
                b.x.run(before);
                tellMore(b);
                int way = before % 3;
                due.yes("link", way == 0 ? b.x.link(4) > 0 : way == 1 ? b.x.link(b.main(0, 26, 2, 43, 0)) > 0
                        : b.x.link(b.main(0, 17, 0)) < 0);
                b.x.run(5000);
                due.text("link behind " + before, b.state(), alone.state());
            }
        }
    }

    private static void linkAndCheckWhileItRuns() {
        due.meeting(GOES_ON, "What was collected is looked at as an image, and gone");
        Bench b = busy(5, 1);
        int[] first = b.bytes();
        due.is("what runs is what was linked last", b.checked(first), 0);
        b.x.run(20);
        int next = b.main(0, 1, 9, 46, 0, 40, 0);
        for (int v : first) {
            b.x.feed(v);
        }
        b.x.link(next);
        due.is("what runs is no more the one that was linked last", b.x.check(), 4);
        due.is("the new one is", b.checked(b.bytes()), 0);
        due.is("a wrong link", b.x.link(b.main(0)), -1600);
        due.is("the new one still is", b.checked(b.bytes()), 0);
        due.is("linked anew it is the same", b.x.link(4) > 0 ? b.checked(first) : 9, 0);
        due.is("it ran for", b.x.told(3), 20);
    }

    private static void bootBehindOtherLinks() {
        due.meeting(GOES_ON, "The image that was linked last begins to run: one thread with main");
        Bench b = busy(5, 1);
        b.x.run(30);
        b.x.link(b.main(0, 1, 9, 46, 0, 26, 1, 43, 0));
        due.is("it goes on", b.x.run(1), 1);
        due.no("a boot that is refused", b.x.boot(0, 100));
        due.is("it goes on", b.x.told(3), 31);
        due.yes("a boot", b.x.boot(7, 50));
        due.is("one thread", b.x.told(4), 1);
        b.x.run(100);
        due.text("the one that was linked last", b.state(), "3/0/101 told 4 1 18 0 1 0 sound 9");
        b.x.boot(7, 50);
        b.x.run(100);
        due.text("and again", b.state(), "3/0/101 told 4 1 18 0 1 0 sound 9");
    }

    private static void lengthWhileItRuns() {
        due.meeting(GOES_ON, "0 classes, 1 methods, 2 the length of the image, 3 instructions done since booting");
        Bench b = busy(5, 1);
        int length = b.x.told(2);
        b.x.run(9);
        String state = b.state();
        due.is("the first length", length, b.bytes().length);
        int next = b.main(0, 40, 0);
        due.is("one more method", b.x.told(1), 6);
        due.is("linking another", b.x.link(next), 19);
        due.is("the length is that one's", b.x.told(2), 19);
        due.text("what runs is as it was", b.state(), state);
        due.is("booted, it is the same", b.x.boot(5, 50) ? b.x.told(2) : 0, 19);
        due.is("nothing was done", b.x.told(3), 0);
    }

    /** Puts out its inputs without end, three instructions a round. */
    private static Bench echo() {
        Bench b = bench();
        b.x.link(b.main(0, 47, 0, 46, 0, 19, 0));
        b.x.boot(50, 50);
        return b;
    }

    private static void goneAndInput() {
        due.meeting(GONE, "An input comes behind the others. False: nothing was booted; 100 are left.");
        for (int taken : new int[] {0, 1, 60, 99, 100}) {
            Bench b = echo();
            for (int i = 0; i < 100; i++) {
                b.x.input(1000 + i);
            }
            if (taken > 0) {
                b.x.run(3 * taken);
            }
            due.is("left", b.x.told(8), 100 - taken);
            b.x.boot(50, 50);
            due.is("none is left", b.x.told(8), 0);
            b.x.run(3);
            due.is("so there is none to put", b.x.out(0), 0);
            for (int i = 0; i < 100; i++) {
                due.yes("room for 100", b.x.input(2000 + i));
            }
            due.no("and no more", b.x.input(1));
            b.x.run(3 * 100);
            due.is("the first one", b.x.out(1), 2000);
            due.is("the last one", b.x.out(100), 2099);
        }
    }

    private static void goneAndOut() {
        due.meeting(GONE, "The i-th int that went out, of the first 300. NONE (which may be one, too): none such.");
        for (int outs : new int[] {1, 299, 300, 301, 900}) {
            Bench b = echo();
            b.x.input(8);
            b.x.run(3 * outs);
            due.is("the first", b.x.out(0), 8);
            due.is("the last that is kept", b.x.out(Math.min(outs, 300) - 1), outs == 1 ? 8 : 0);
            b.x.boot(50, 50);
            for (int i : new int[] {0, 1, 298, 299, 300}) {
                due.is("out(" + i + ")", b.x.out(i), NONE);
            }
            b.x.input(9);
            b.x.run(3);
            due.is("the first is the new one", b.x.out(0), 9);
            due.is("and the only one", b.x.out(1), NONE);
        }
    }

    private static void goneAndTold() {
        due.meeting(GONE, "7 how many ints went out, 8 inputs that are left, 9 bytes collected by feed()");
        Bench b = echo();
        b.x.feed(80);
        b.x.feed(77);
        b.x.input(1);
        b.x.input(2);
        b.x.run(3);
        due.is("one went out", b.x.told(7), 1);
        due.is("one is left", b.x.told(8), 1);
        b.x.boot(50, 50);
        due.is("none went out", b.x.told(7), 0);
        due.is("none is left", b.x.told(8), 0);
        due.is("but what was collected stays", b.x.told(9), 2);
        b.x.check();
        due.is("until check()", b.x.told(9), 0);
    }

    private static void goneOnlyByBoot() {
        due.meeting(GONE, "False: none such, no image.");
        Bench b = echo();
        b.x.input(1);
        b.x.input(2);
        b.x.run(3);
        String state = b.state();
        b.x.boot(51, 50);
        b.x.boot(50, 8001);
        b.x.link(0);
        b.x.link(b.main(0, 17, 0));
        b.x.check();
        b.x.run(0);
        due.text("nothing is gone", b.state(), state);
        due.is("and nothing ended", b.x.run(3), 3);
        due.text("what went out", b.outs(), "1 2");
    }

    private static void cutsAndHowMany() {
        due.meeting(CUT, "(Fewer: all threads ended or wait.)");
        for (int quantum : new int[] {1, 2, 7, 50}) {
            Bench whole = busy(quantum, 4, 1, 2);
            int all = whole.x.run(5000);
            for (int cut : new int[] {1, 2, 3, 5, 11, 60}) {
                Bench b = busy(quantum, 4, 1, 2);
                for (int done = 0; done < all; done += cut) {
                    due.is("run(" + cut + ") behind " + done, b.x.run(cut), Math.min(cut, all - done));
                }
                due.is("none is left", b.x.run(cut), 0);
                due.text("by " + cut, b.state(), whole.state());
            }
        }
    }

    private static void cutsAndThreads() {
        due.meeting(CUT, "0 whether it goes on (0), waits for a monitor now (1), ended (2), ended by an exception (3)");
        for (int quantum : new int[] {1, 2, 3, 7, 50}) {
            int all = busy(quantum, 4, 1, 2).x.run(5000);
            for (int done = 1; done <= all; done++) {
                Bench whole = busy(quantum, 4, 1, 2);
                whole.x.run(done);
                Bench b = busy(quantum, 4, 1, 2);
                for (int i = 0; i < done; i++) {
                    b.x.run(1);
                    b.x.thread(i % 3, 0);
                }
                due.text("quantum " + quantum + ", " + done, b.state(), whole.state());
            }
        }
    }

    private static void cutsBeforeAWait() {
        due.meeting(CUT, "when it ends or must wait");
        Bench b = bench();
        b.met(2, 0, 0, 0, 0, 1, 54, 0, 49, 0, 1, 1, 46, 0, 54, 0, 50, 0, 19, 0);
        // Thread 0 holds the monitor through its first turn and half of its second one.
        b.x.link(b.main(0, 26, 2, 16, 0, 55, 0, 49, 0, 54, 0, 48, 0, 0, 0, 0, 0, 0, 0, 54, 0, 50, 0, 1, 2, 46, 0, 19, 11));
        b.x.boot(8, 50);
        due.is("thread 0 has its turn", b.x.run(8), 8);
        due.is("thread 1 comes up to 49", b.x.run(1), 1);
        due.text("there it waits", b.threads(), "0/1/0 1/1/0");
        due.is("so its turn has ended", b.x.run(3), 3);
        due.text("thread 0 has left the monitor", b.threads(), "0/1/0 0/1/0");
        due.text("its turn goes on", b.outs(), "");
        due.is("up to its end", b.x.run(5), 5);
        due.text("that was two rounds", b.outs(), "2 2");
        due.is("thread 1 has a whole turn", b.x.run(8), 8);
        due.text("which enters again", b.outs(), "2 2 1");
    }

    private static void callersAndDepth() {
        due.meeting(CALLER, "1 how many methods are one in another (0 when it has ended)");
        for (int deep = 0; deep <= 18; deep++) {
            Bench b = bench();
            int thrower = b.met(0, NONE, 1, 0, 0, 1, 2, 0, 22, 4, 26, 2, 43, 0, 2, 0, 1, 1, 5, 0, 38, 0, 40, 0);
            int main = b.main(1, 1, 44, 3, 0, 1, deep, 38, thrower, 40, 0, 44, 2, 46, 0, 2, 0, 46, 0, 40, 0);
            b.x.trap(3, 4, 5, 2);
            b.x.link(main);
            b.x.boot(50, 50);
            b.x.run(4 + 6 * deep + 3);
            due.is("methods one in another", b.x.thread(0, 1), 2 + deep);
            b.x.run(1);
            due.is("main alone", b.x.thread(0, 1), 1);
            due.is("it goes on", b.x.thread(0, 0), 0);
            due.is("it is ended by none", b.x.thread(0, 2), 0);
            b.x.run(5);
            due.text("main's local, and the object", b.outs(), "1 44");
            due.text("it ended by its return", b.threads(), "2/0/0");
        }
    }

    private static void callersAndHowItEnded() {
        due.meeting(CALLER, "2 the exception by which it ended: - k, or 100 and the class (of the source) of the object, "
                + "110 for an array");
        int[][] rows = {{26, 0, 100}, {26, 1, 101}, {26, 2, 102}, {45, 0, -1}};
        for (int[] row : rows) {
            Bench b = bench();
            b.met(1, 5, 0, 0, 0, 1, row[0], row[1], 43, 0);
            b.met(0, NONE, 1, 1, 0, 1, 2, 0, 39, 5, 40, 0, 17, 0, 40, 0);
            // Traps for something else, and beside the call.
            b.x.trap(1, 2, 3, -9);
            b.x.trap(0, 1, 3, -1);
            b.x.trap(2, 5, 3, -1);
            due.text("through three methods", b.result(b.main(0, 26, 1, 38, 1, 40, 0)), " by " + row[2]);
            due.text("none is left", b.threads(), "3/0/" + row[2]);
        }
        Bench c = bench();
        c.met(0, NONE, 0, 0, 2, 0, 1, 3, 35, 0, 43, 0);
        due.text("an array", c.result(c.main(0, 38, 0, 17, 0, 40, 0)), " by 110");
    }

    private static void noCallerButABeginner() {
        due.meeting("it ends a thread whose method has no caller (as its return does)",
                "0 when it goes on or ended by its return");
        Bench b = bench();
        b.met(0, 0, 0, 0, 1, 1, 26, 2, 43, 0);
        b.met(2, 0, 0, 0, 1, 1, 1, 7, 41, 0);
        int main = b.main(0, 26, 0, 48, 0, 26, 2, 48, 0, 51, 0, 52, 0, 46, 0, 40, 0, 17, 0, 40, 0);
        b.x.trap(0, 8, 8, -1);
        due.text("the one that began it has none of it", b.result(main), "0");
        due.text("nor what it returns", b.threads(), "2/0/0 3/0/102 2/0/0");
    }

    private static void callersAndMonitors() {
        due.meeting(CALLER, "49, 50 take R: its monitor is entered, left, once more, once less");
        Bench b = bench();
        b.met(0, 0, 0, 0, 0, 1, 54, 0, 49, 0, 1, 1, 46, 0, 40, 0);
        b.met(0, NONE, 0, 0, 0, 0, 54, 0, 49, 0, 54, 0, 49, 0, 45, 0, 43, 0);
        int main = b.main(0, 26, 2, 55, 0, 26, 0, 48, 0, 38, 1, 40, 0, 55, 1, 51, 0,
                54, 0, 50, 0, 51, 0, 1, 2, 46, 0, 54, 0, 50, 0, 51, 0, 40, 0);
        b.x.trap(4, 5, 6, -2);
        b.x.link(main);
        b.x.boot(50, 50);
        b.x.run(4 + 1 + 6 + 2 + 1);
        due.text("the method that entered it ended, the thread did not", b.threads(), "0/1/0 1/1/0");
        b.x.run(2);
        due.text("left once of twice", b.threads(), "0/1/0 1/1/0");
        b.x.run(100);
        due.text("left twice", b.outs(), "2 1");
        due.text("both ended", b.threads(), "2/0/0 2/0/0");
    }

    private static void endedByReturnAndWaiting() {
        due.meeting(STILL_ENTERED, "(a thread whose next instruction is 49 of a monitor that another one has entered is "
                + "passed over, and uses no instruction)");
        Bench b = bench();
        b.met(0, 0, 0, 0, 0, 1, 2, 0, 49, 0, 40, 0);
        b.x.link(b.main(1, 26, 0, 3, 0, 2, 0, 48, 0, 2, 0, 48, 0, 51, 0, 2, 0, 49, 0, 40, 0));
        b.x.boot(50, 50);
        b.x.run(7 + 2);
        due.text("thread 1 has entered it", b.threads(), "0/1/0 0/1/0 0/1/0");
        b.x.run(1);
        due.text("and ended", b.threads(), "0/1/0 2/0/0 0/1/0");
        due.is("one of each of the others", b.x.run(5000), 2);
        due.text("they wait for ever", b.threads(), "1/1/0 2/0/0 1/1/0");
        due.is("nothing can be done", b.x.run(5000), 0);
        due.is("instructions in all", b.x.told(3), 7 + 3 + 2);
        b.x.boot(50, 50);
        due.is("until boot", b.x.run(5000), 7 + 3 + 2);
    }

    private static void endedByExceptionAndWaiting() {
        due.meeting(STILL_ENTERED, "waits for a monitor now (1)");
        for (int times = 1; times <= 3; times++) {
            Bench b = bench();
            b.met(0, 0, 0, 0, 0, 1, 2, 0, 38, 1, 40, 0);
            int inner = b.met(0, NONE, 1, 1, 0, 1);
            for (int i = 0; i < times; i++) {
                b.x.code(2, 0);
                b.x.code(49, 0);
            }
            b.x.code(2, 0);
            b.x.code(50, 0);
            b.x.code(26, 2);
            b.x.code(43, 0);
            due.is("the inner one", inner, 1);
            b.result(b.main(1, 26, 0, 3, 0, 2, 0, 48, 0, 51, 0, 2, 0, 49, 0, 40, 0), 50, 100);
            due.text("entered " + times + " times, left once", b.threads(), times == 1 ? "2/0/0 3/0/102" : "1/1/0 3/0/102");
        }
    }

    private static void endedAndMoved() {
        due.meeting(STILL_ENTERED, "a collector that moves objects together");
        Bench b = bench();
        b.met(0, 0, 0, 0, 0, 1, 54, 0, 49, 0, 40, 0);
        // Thread 1 enters the monitor and ends; thread 2 makes what goes, so that the monitor's object moves.
        b.met(2, 0, 0, 0, 0, 1, 26, 2, 17, 0, 19, 0);
        b.x.link(b.main(0, 1, 4, 31, 0, 17, 0, 26, 2, 55, 0, 26, 0, 48, 0, 51, 0, 26, 2, 48, 0, 54, 0, 49, 0, 40, 0));
        b.x.boot(50, 100);
        b.x.run(200);
        due.yes("it was moved", b.x.told(6) > 0);
        due.text("thread 0 waits for one that ended", b.threads(), "1/1/0 2/0/0 0/1/0");
        due.yes("sound", b.x.sound());
        b.x.run(5000);
        due.text("for ever", b.threads(), "1/1/0 2/0/0 0/1/0");
    }

    private static void collectionsAndSound() {
        due.meeting(COLLECTION, "Whether every reference that is there, in statics, locals, on stacks, in fields of objects "
                + "that are there, is null or leads to the beginning of such an object");
        for (int heap : new int[] {76, 80, 90, 120}) {
            Bench b = busy(7, 4, 1, 2);
            b.x.boot(7, heap);
            b.x.input(3);
            int was = 0;
            for (int n = 0; n < 120 && b.x.run(1) == 1; n++) {
                due.yes("sound behind " + n, b.x.sound());
                due.yes("within HEAP", b.x.told(5) <= heap);
                due.yes("never fewer collections", b.x.told(6) >= was);
                was = b.x.told(6);
            }
        }
    }

    private static void collectionsAndWhatIsThere() {
        due.meeting(COLLECTION, "5 what all objects that are there take, 6 collections");
        Bench b = bench();
        // A chain of three of 14 in a static (a ring, so that each is led to), then what no one keeps.
        b.x.link(b.main(2, 26, 0, 3, 0, 2, 0, 55, 3, 26, 0, 3, 1, 2, 0, 2, 1, 30, 0, 26, 0, 3, 0, 2, 1, 2, 0, 30, 0,
                2, 0, 54, 3, 30, 0, 45, 0, 3, 0, 45, 0, 3, 1, 1, 10, 31, 0, 17, 0, 45, 0, 55, 3, 1, 10, 31, 0, 40, 0));
        b.x.boot(50, 92);
        b.x.run(21);
        due.is("three are there", b.x.told(5), 42);
        b.x.run(2);
        due.is("with an array of 50", b.x.told(5), 92);
        due.is("none was needed", b.x.told(6), 0);
        b.x.run(1 + 2 + 1);
        due.is("what no one keeps is there until then", b.x.told(5), 92);
        b.x.run(1);
        due.is("then one collection", b.x.told(6), 1);
        due.is("the ring and the first array go at once", b.x.told(5), 50);
        due.yes("sound", b.x.sound());
        b.x.run(1);
        due.text("it ended; the last one is there still", b.state(), "2/0/0 told 29 1 50 1 0 0 sound ");
    }

    private static void collectionsThatDoNotHelp() {
        due.meeting("if that is not enough: exception 9", "5 what all objects that are there take, 6 collections");
        Bench b = bench();
        int m = b.main(1, 26, 0, 17, 0, 26, 1, 3, 0, 1, 16, 31, 0, 40, 0, 17, 0, 1, 0, 31, 0, 40, 0);
        b.x.trap(4, 6, 7, -10);
        b.x.link(m);
        b.x.boot(50, 80);
        b.x.run(5);
        due.is("14 and 18 are there", b.x.told(5), 32);
        b.x.run(1);
        due.is("74 more are too much", b.x.told(5), 18);
        due.is("a collection", b.x.told(6), 1);
        due.text("and an exception that is caught", b.threads(), "0/1/0");
        due.yes("sound", b.x.sound());
        b.x.run(3);
        due.is("10 more are not", b.x.told(5), 28);
        due.is("no other collection", b.x.told(6), 1);
    }

    private static void noCollection() {
        due.meeting("(below 0: exception 4; above 200, too: 4)", "6 collections");
        for (int length : new int[] {-1, 201}) {
            for (int op : new int[] {31, 35}) {
                Bench b = bench();
                int m = b.main(0, 26, 1, 17, 0, 26, 1, 17, 0, 1, length, op, 0, 40, 0);
                due.text("exception 4", b.result(m, 9, 50), " by -4");
                due.is("no collection", b.x.told(6), 0);
                due.is("nothing has gone", b.x.told(5), 36);
            }
        }
    }

    private static void endedThreadsHoldNothing() {
        due.meeting(COLLECTION, "110 for an array");
        Bench b = bench();
        b.met(0, 0, 0, 0, 0, 1, 1, 10, 31, 0, 43, 0);
        b.x.link(b.main(0, 26, 0, 48, 0, 51, 0, 1, 5, 31, 0, 17, 0, 40, 0));
        b.x.boot(50, 80);
        b.x.run(6);
        due.text("thread 1 has thrown an array", b.threads(), "0/1/0 3/0/110");
        due.is("14 and 50", b.x.told(5), 64);
        b.x.run(2);
        due.is("what it threw and its receiver go", b.x.told(5), 30);
        due.text("it is told all the same", b.threads(), "0/1/0 3/0/110");
        due.yes("sound", b.x.sound());
    }
}
