import com.sun.management.ThreadMXBean;
import java.lang.management.ManagementFactory;

/** What calls make must stay small: a run of calls lives in one room of some 7,300,000 fields and elements. */
public final class RoomTest {
    private static final ThreadMXBean THREADS = (ThreadMXBean) ManagementFactory.getThreadMXBean();
    private static final Due due = new Due("room");

    public static void main(String[] args) {
        use(new PocketMachine(), 0);
        made();
        long start = made();
        PocketMachine x = new PocketMachine();
        long built = made() - start;
        int m = busy(x);
        use(x, m);
        long used = made() - start;
        for (int n = 0; n < 500; n++) {
            use(x, m);
        }
        long later = made() - start - used;
        // An int takes four bytes of these, so they are far more than elements.
        due.yes("a new object takes " + built + " bytes", built < 40_000);
        due.yes("a whole program in use takes " + used + " bytes", used < 200_000);
        due.yes("500 times link, boot, run, sound, check take " + later + " bytes", later < 5_000);
        due.end();
    }

    private static long made() {
        return THREADS.getThreadAllocatedBytes(Thread.currentThread().getId());
    }

    private static int busy(PocketMachine x) {
        x.cls(PocketMachine.BAD, 6, 6);
        x.method(0, 0, 0, 0, 0, 1);
        int[] code = {26, 0, 3, 0, 1, 30, 35, 0, 17, 0, 19, 0};
        for (int i = 0; i < code.length; i += 2) {
            x.code(code[i], code[i + 1]);
        }
        int m = x.method(0, PocketMachine.NONE, 0, 0, 0, 1);
        x.code(26, 0);
        x.code(48, 0);
        x.code(19, 0);
        return m;
    }

    private static void use(PocketMachine x, int m) {
        x.link(m);
        x.boot(7, 4000);
        x.input(1);
        x.run(1000);
        x.sound();
        x.feed(80);
        x.check();
    }
}
