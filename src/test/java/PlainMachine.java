import java.util.ArrayDeque;
import java.util.ArrayList;
import java.util.Arrays;
import java.util.Collections;
import java.util.Deque;
import java.util.IdentityHashMap;
import java.util.List;
import java.util.Set;
import java.util.TreeMap;
import java.util.TreeSet;

/**
 * The document once more, written for plainness with Java's own objects and exceptions, and running the
 * source's instructions instead of an image: what PocketMachine is compared with.
 */
final class PlainMachine {
    record Cls(int above, int ints, int refs) { }

    static final class Met {
        int cls, name, args, refs, ret, locals;
        List<int[]> code = new ArrayList<>();
        List<int[]> traps = new ArrayList<>();

        String takes() {
            StringBuilder kinds = new StringBuilder(name == -2 ? "" : "R");
            for (int a = 0; a < args; a++) {
                kinds.append((refs >> a & 1) == 1 ? 'R' : 'I');
            }
            return kinds.toString();
        }

        Met copy() {
            Met m = new Met();
            m.cls = cls;
            m.name = name;
            m.args = args;
            m.refs = refs;
            m.ret = ret;
            m.locals = locals;
            m.code = new ArrayList<>(code);
            m.traps = new ArrayList<>(traps);
            return m;
        }
    }

    static final class Wrong extends RuntimeException {
        private static final long serialVersionUID = 1;
        final int number;

        Wrong(int number) {
            super(null, null, false, false);
            this.number = number;
        }
    }

    static final class Obj {
        int cls;
        int[] ints = new int[0];
        Obj[] refs = new Obj[0];
        boolean array;
        boolean ofRefs;
        int owner = -1;
        int entries;

        int bytes() {
            return (array ? 10 : 8) + 4 * ints.length + 2 * refs.length;
        }
    }

    static final class Raised extends Exception {
        private static final long serialVersionUID = 1;
        final int k;
        final transient Obj obj;

        Raised(int k, Obj obj) {
            super(null, null, false, false);
            this.k = k;
            this.obj = obj;
        }
    }

    /** A method that goes on. Values are Integer, Obj, or NULL; a local that holds nothing is null. */
    static final class Frame {
        Met met;
        Object[] locals;
        Deque<Object> stack = new ArrayDeque<>();
        int pc;
    }

    static final class Thr {
        Deque<Frame> frames = new ArrayDeque<>();
        boolean failed;
        int failure;
    }

    static final Object NULL = new Object();

    // ---- the source
    List<Cls> classes = new ArrayList<>();
    List<Met> methods = new ArrayList<>();
    // ---- what was linked last
    List<Integer> image;
    List<Cls> linkedClasses;
    List<Met> linkedMethods;
    int linkedMain;
    List<Integer> fed = new ArrayList<>();
    // ---- what runs
    boolean booted;
    List<Cls> cs;
    List<Met> ms;
    List<Thr> threads = new ArrayList<>();
    int quantum, heap, current, used, done, collections;
    boolean inTurn;
    List<Obj> there = new ArrayList<>();
    int[] intStatics = new int[8];
    Object[] refStatics = new Object[8];
    List<Integer> outs = new ArrayList<>();
    Deque<Integer> ins = new ArrayDeque<>();

    int cls(int above, int ints, int refs) {
        if (above < -1 || above >= classes.size() || ints < 0 || ints > 6 || refs < 0 || refs > 6
                || classes.size() == 10) {
            return -1;
        }
        classes.add(new Cls(above, ints, refs));
        return classes.size() - 1;
    }

    int method(int cls, int name, int args, int refs, int ret, int locals) {
        if (methods.size() == 24 || cls < 0 || cls >= classes.size() || name < -2 || name == -1 || name > 7
                || args < 0 || args > 4 || refs < 0 || refs >= 1 << args || ret < 0 || ret > 2
                || locals > 12 || locals < args + (name == -2 ? 0 : 1)) {
            return -1;
        }
        for (Met o : methods) {
            if (name != -2 && o.name == name && (o.args != args || o.refs != refs || o.ret != ret || o.cls == cls)) {
                return -1;
            }
        }
        Met m = new Met();
        m.cls = cls;
        m.name = name;
        m.args = args;
        m.refs = refs;
        m.ret = ret;
        m.locals = locals;
        methods.add(m);
        return methods.size() - 1;
    }

    int code(int op, int o) {
        if (methods.isEmpty() || op < 0 || op > 55 || last().code.size() == 60) {
            return -1;
        }
        last().code.add(new int[] {op, o});
        return last().code.size() - 1;
    }

    int trap(int a, int b, int h, int what) {
        if (methods.isEmpty() || last().traps.size() == 6) {
            return -1;
        }
        last().traps.add(new int[] {a, b, h, what});
        return last().traps.size();
    }

    private Met last() {
        return methods.get(methods.size() - 1);
    }

    static int find(List<Cls> cs, List<Met> ms, int c, int name) {
        for (int at = c; at >= 0; at = cs.get(at).above()) {
            for (int m = 0; m < ms.size(); m++) {
                if (ms.get(m).cls == at && ms.get(m).name == name) {
                    return m;
                }
            }
        }
        return -1;
    }

    private boolean isClass(int c) {
        return c >= 0 && c < classes.size();
    }

    // ---- linking

    private final Set<Integer> reachedMethods = new TreeSet<>();
    private final Set<Integer> reachedClasses = new TreeSet<>();
    private final TreeMap<Integer, String[]> looks = new TreeMap<>(); // of one method: stack, locals

    int link(int main) {
        if (main < 0 || main >= methods.size() || methods.get(main).name != -2 || methods.get(main).args != 0) {
            return -1;
        }
        reach(main);
        TreeMap<Integer, TreeMap<Integer, String[]>> all = new TreeMap<>();
        for (int m : reachedMethods) {
            try {
                verify(methods.get(m));
            } catch (Wrong w) {
                return -1000 - 100 * m - w.number;
            }
            all.put(m, new TreeMap<>(looks));
        }
        image = write(main, all);
        linkedClasses = new ArrayList<>(classes);
        linkedMethods = new ArrayList<>();
        for (Met m : methods) {
            linkedMethods.add(m.copy());
        }
        linkedMain = main;
        return image.size();
    }

    private void reach(int main) {
        reachedMethods.clear();
        reachedClasses.clear();
        reachedMethods.add(main);
        Set<Integer> made = new TreeSet<>();
        Set<Integer> names = new TreeSet<>();
        int before;
        do {
            before = reachedMethods.size();
            for (int m : new ArrayList<>(reachedMethods)) {
                for (int[] in : methods.get(m).code) {
                    if (in[0] == 26 && isClass(in[1])) {
                        made.add(in[1]);
                    }
                    if (in[0] == 39) {
                        names.add(in[1]);
                    }
                    if (in[0] == 48) {
                        names.add(0);
                    }
                    if (in[0] == 38 && in[1] >= 0 && in[1] < methods.size() && methods.get(in[1]).name == -2) {
                        reachedMethods.add(in[1]);
                    }
                }
            }
            for (int c : made) {
                for (int name : names) {
                    int found = name < 0 || name > 7 ? -1 : find(classes, methods, c, name);
                    if (found >= 0) {
                        reachedMethods.add(found);
                    }
                }
            }
        } while (reachedMethods.size() != before);
        for (int m : reachedMethods) {
            Met met = methods.get(m);
            if (met.name != -2) {
                name(met.cls);
            }
            for (int[] in : met.code) {
                if (in[0] == 26 || in[0] == 44) {
                    name(in[1]);
                } else if (in[0] >= 27 && in[0] <= 30 && in[1] >= 0) {
                    name(in[1] / 8);
                }
            }
            for (int[] t : met.traps) {
                name(t[3]);
            }
        }
    }

    private void name(int c) {
        for (int at = isClass(c) ? c : -1; at >= 0; at = classes.get(at).above()) {
            reachedClasses.add(at);
        }
    }

    private final TreeSet<Integer> pending = new TreeSet<>();

    private void verify(Met m) {
        int n = m.code.size();
        if (n == 0) {
            throw new Wrong(0);
        }
        for (int[] t : m.traps) {
            if (!(0 <= t[0] && t[0] < t[1] && t[1] <= n && t[2] >= 0 && t[2] < n && t[3] < classes.size()
                    && t[3] >= -10)) {
                throw new Wrong(99);
            }
        }
        looks.clear();
        pending.clear();
        come(0, "", (m.takes() + "------------").substring(0, 12));
        while (!pending.isEmpty()) {
            look(m, pending.pollFirst());
        }
    }

    private void come(int i, String stack, String locals) {
        String[] old = looks.get(i);
        if (old == null) {
            looks.put(i, new String[] {stack, locals});
            pending.add(i);
            return;
        }
        if (!old[0].equals(stack)) {
            throw new Wrong(i);
        }
        StringBuilder merged = new StringBuilder();
        for (int l = 0; l < 12; l++) {
            merged.append(old[1].charAt(l) == locals.charAt(l) ? old[1].charAt(l) : '-');
        }
        if (!merged.toString().equals(old[1])) {
            looks.put(i, new String[] {stack, merged.toString()});
            pending.add(i);
        }
    }

    private void look(Met m, int i) {
        String stack = looks.get(i)[0];
        String locals = looks.get(i)[1];
        for (int[] t : m.traps) {
            if (t[0] <= i && i < t[1]) {
                come(t[2], "R", locals);
            }
        }
        int op = m.code.get(i)[0];
        int o = m.code.get(i)[1];
        String[] effect = effect(m, op, o, locals, stack);
        if (effect == null || !ends(stack, effect[0])) {
            throw new Wrong(i);
        }
        String taken = stack.substring(stack.length() - effect[0].length());
        String rest = stack.substring(0, stack.length() - effect[0].length());
        if (op == 3) {
            locals = locals.substring(0, o) + taken + locals.substring(o + 1);
        }
        String puts = effect[1];
        if (op == 16) {
            puts = taken + taken;
        } else if (op == 18) {
            puts = taken.substring(1) + taken.substring(0, 1);
        }
        stack = rest + puts;
        if (stack.length() > 10) {
            throw new Wrong(i);
        }
        if (op >= 19 && op <= 25) {
            come(o, stack, locals);
        }
        if (op != 19 && !(op >= 40 && op <= 43)) {
            if (i + 1 == m.code.size()) {
                throw new Wrong(i);
            }
            come(i + 1, stack, locals);
        }
    }

    private static boolean ends(String stack, String takes) {
        if (stack.length() < takes.length()) {
            return false;
        }
        String top = stack.substring(stack.length() - takes.length());
        for (int i = 0; i < takes.length(); i++) {
            if (takes.charAt(i) != 'X' && takes.charAt(i) != top.charAt(i)) {
                return false;
            }
        }
        return true;
    }

    private static String[] fx(boolean possible, String takes, String puts) {
        return possible ? new String[] {takes, puts} : null;
    }

    private String[] effect(Met m, int op, int o, String locals, String stack) {
        boolean target = o >= 0 && o < m.code.size();
        boolean st = o >= 0 && o <= 7;
        boolean cls = isClass(o);
        boolean local = o >= 0 && o < m.locals;
        Cls f = o >= 0 && isClass(o / 8) ? classes.get(o / 8) : null;
        boolean intField = f != null && o % 8 < f.ints();
        boolean refField = f != null && o % 8 < f.refs();
        switch (op) {
            case 0: case 51: return fx(true, "", "");
            case 1: return fx(o == (short) o, "", "I");
            case 2: return fx(local && locals.charAt(o) != '-', "", local ? "" + locals.charAt(o) : "");
            case 3: return fx(local, "X", "");
            case 9: return fx(true, "I", "I");
            case 4: case 5: case 6: case 7: case 8: case 10: case 11: case 12: case 13: case 14: case 15:
                return fx(true, "II", "I");
            case 16: case 17: return fx(true, "X", "");
            case 18: return fx(true, "XX", "");
            case 19: return fx(target, "", "");
            case 20: case 21: case 22: return fx(target, "I", "");
            case 23: return fx(target, "R", "");
            case 24: return fx(target, "RR", "");
            case 25: return fx(target, "II", "");
            case 26: return fx(cls, "", "R");
            case 27: return fx(intField, "R", "I");
            case 28: return fx(intField, "RI", "");
            case 29: return fx(refField, "R", "R");
            case 30: return fx(refField, "RR", "");
            case 31: case 35: return fx(true, "I", "R");
            case 32: return fx(true, "RI", "I");
            case 33: return fx(true, "RII", "");
            case 34: return fx(true, "R", "I");
            case 36: return fx(true, "RI", "R");
            case 37: return fx(true, "RIR", "");
            case 38: {
                boolean ok = o >= 0 && o < methods.size() && methods.get(o).name == -2;
                return ok ? fx(true, methods.get(o).takes(), gives(methods.get(o))) : null;
            }
            case 39:
                for (Met other : methods) {
                    if (other.name == o && o >= 0) {
                        return fx(true, other.takes(), gives(other));
                    }
                }
                return null;
            case 40: return fx(m.ret == 0, "", "");
            case 41: return fx(m.ret == 1, "I", "");
            case 42: return fx(m.ret == 2, "R", "");
            case 43: case 49: case 50: return fx(true, "R", "");
            case 44: return fx(cls, "R", "I");
            case 45: return fx(true, "", "R");
            case 46: return fx(true, "I", "");
            case 47: return fx(true, "", "I");
            case 48: {
                boolean ok = false;
                for (Met other : methods) {
                    ok |= other.name == 0 && other.args == 0;
                }
                return fx(ok, "R", "");
            }
            case 52: return fx(st, "", "I");
            case 53: return fx(st, "I", "");
            case 54: return fx(st, "", "R");
            case 55: return fx(st, "R", "");
            default: throw new IllegalStateException("instruction " + op + " on " + stack);
        }
    }

    private static String gives(Met m) {
        return m.ret == 0 ? "" : m.ret == 1 ? "I" : "R";
    }

    // ---- the image

    private int sum(int c, boolean ints) {
        int sum = 0;
        for (int at = c; at >= 0; at = classes.get(at).above()) {
            sum += ints ? classes.get(at).ints() : classes.get(at).refs();
        }
        return sum;
    }

    private static void two(List<Integer> to, int v) {
        to.add(v >> 8 & 255);
        to.add(v & 255);
    }

    private List<Integer> write(int main, TreeMap<Integer, TreeMap<Integer, String[]>> all) {
        List<Integer> cn = new ArrayList<>(reachedClasses);
        List<Integer> mn = new ArrayList<>(reachedMethods);
        List<Integer> im = new ArrayList<>(List.of(80, 77, cn.size(), mn.size(), mn.indexOf(main), 0, 0, 0, 0));
        for (int c : cn) {
            im.add(classes.get(c).above() < 0 ? 255 : cn.indexOf(classes.get(c).above()));
            im.add(sum(c, true));
            im.add(sum(c, false));
            for (int name = 0; name < 8; name++) {
                int found = mn.indexOf(find(classes, methods, c, name));
                im.add(found < 0 ? 255 : found);
            }
        }
        int heads = im.size();
        for (int m : mn) {
            heads += 9 + 7 * methods.get(m).traps.size();
        }
        List<Integer> codes = new ArrayList<>();
        for (int m : mn) {
            Met met = methods.get(m);
            TreeMap<Integer, String[]> looked = all.get(m);
            int[] off = new int[met.code.size() + 1];
            for (int i = 0; i < met.code.size(); i++) {
                off[i + 1] = off[i] + (looked.containsKey(i) ? size(met.code.get(i)) : 1);
            }
            two(im, heads + codes.size());
            two(im, off[met.code.size()]);
            im.add(met.takes().length());
            im.add(met.locals);
            int most = 0;
            for (String[] kinds : looked.values()) {
                most = Math.max(most, kinds[0].length());
            }
            im.add(most);
            im.add(met.ret);
            im.add(met.traps.size());
            for (int[] t : met.traps) {
                two(im, off[t[0]]);
                two(im, off[t[1]]);
                two(im, off[t[2]]);
                im.add(t[3] < 0 ? 256 + t[3] : cn.indexOf(t[3]));
            }
            for (int i = 0; i < met.code.size(); i++) {
                if (looked.containsKey(i)) {
                    encode(codes, met.code.get(i), off, cn, mn);
                } else {
                    codes.add(0);
                }
            }
        }
        im.addAll(codes);
        im.set(5, im.size() >> 8);
        im.set(6, im.size() & 255);
        int total = 0;
        for (int b : im) {
            total += b;
        }
        im.set(7, total >> 8 & 255);
        im.set(8, total & 255);
        return im;
    }

    private static int size(int[] in) {
        int op = in[0];
        if (op == 1) {
            return in[1] == (byte) in[1] ? 2 : 3;
        }
        if (op >= 19 && op <= 25 || op >= 27 && op <= 30) {
            return 3;
        }
        return op == 2 || op == 3 || op == 26 || op == 38 || op == 39 || op == 44 || op >= 52 ? 2 : 1;
    }

    private void encode(List<Integer> to, int[] in, int[] off, List<Integer> cn, List<Integer> mn) {
        int op = in[0];
        int o = in[1];
        boolean wide = op == 1 && o != (byte) o;
        to.add(wide ? 61 : op);
        if (wide) {
            two(to, o);
        } else if (op >= 19 && op <= 25) {
            two(to, off[o]);
        } else if (op >= 27 && op <= 30) {
            to.add(cn.indexOf(o / 8));
            to.add(sum(classes.get(o / 8).above(), op <= 28) + o % 8);
        } else if (op == 26 || op == 44) {
            to.add(cn.indexOf(o));
        } else if (op == 38) {
            to.add(mn.indexOf(o));
        } else if (size(in) == 2) {
            to.add(o & 255);
        }
    }

    int image(int i) {
        return image == null || i < 0 || i >= image.size() ? -1 : image.get(i);
    }

    boolean feed(int b) {
        if (b < 0 || b > 255 || fed.size() == 6000) {
            return false;
        }
        fed.add(b);
        return true;
    }

    int check() {
        List<Integer> f = fed;
        fed = new ArrayList<>();
        if (f.size() < 9 || f.get(0) != 80 || f.get(1) != 77) {
            return 1;
        }
        if (f.get(5) * 256 + f.get(6) != f.size()) {
            return 2;
        }
        int sum = -f.get(7) - f.get(8);
        for (int b : f) {
            sum += b;
        }
        return f.get(7) * 256 + f.get(8) != sum % 65536 ? 3 : f.equals(image) ? 0 : 4;
    }

    // ---- running

    boolean boot(int q, int h) {
        if (image == null || q < 1 || q > 50 || h < 50 || h > 8000) {
            return false;
        }
        booted = true;
        cs = linkedClasses;
        ms = linkedMethods;
        quantum = q;
        heap = h;
        done = 0;
        collections = 0;
        there.clear();
        threads.clear();
        outs.clear();
        ins.clear();
        Arrays.fill(intStatics, 0);
        Arrays.fill(refStatics, NULL);
        begin(linkedMain, null);
        current = -1;
        inTurn = false;
        return true;
    }

    private void begin(int m, Obj receiver) {
        Thr t = new Thr();
        t.frames.push(frame(m));
        if (receiver != null) {
            t.frames.peek().locals[0] = receiver;
        }
        threads.add(t);
    }

    private Frame frame(int m) {
        Frame f = new Frame();
        f.met = ms.get(m);
        f.locals = new Object[12];
        return f;
    }

    boolean input(int v) {
        if (!booted || ins.size() == 100) {
            return false;
        }
        ins.add(v);
        return true;
    }

    private boolean waits(int t) {
        Thr thr = threads.get(t);
        if (thr.frames.isEmpty()) {
            return false;
        }
        Frame f = thr.frames.peek();
        return f.met.code.get(f.pc)[0] == 49 && f.stack.peek() instanceof Obj o && o.owner >= 0 && o.owner != t;
    }

    private boolean ready(int t) {
        return !threads.get(t).frames.isEmpty() && !waits(t);
    }

    int run(int n) {
        if (!booted || n < 1 || n > 5000) {
            return -1;
        }
        int did = 0;
        while (did < n) {
            if (inTurn && (used == quantum || !ready(current))) {
                inTurn = false;
            }
            if (!inTurn) {
                int next = -1;
                for (int k = 1; k <= threads.size() && next < 0; k++) {
                    int t = (current + k) % threads.size();
                    next = ready(t) ? t : -1;
                }
                if (next < 0) {
                    break;
                }
                current = next;
                used = 0;
                inTurn = true;
            }
            did++;
            used++;
            step(current);
        }
        done += did;
        return did;
    }

    private void step(int t) {
        Thr thr = threads.get(t);
        try {
            act(t, thr, thr.frames.peek());
        } catch (Raised e) {
            handle(thr, e);
        }
    }

    private void handle(Thr thr, Raised e) {
        while (!thr.frames.isEmpty()) {
            Frame f = thr.frames.peek();
            for (int[] trap : f.met.traps) {
                boolean fits = trap[3] >= 0 ? isOf(e.obj, trap[3]) : trap[3] == -1 || e.k == -1 - trap[3];
                if (trap[0] <= f.pc && f.pc < trap[1] && fits) {
                    f.stack.clear();
                    f.stack.push(e.obj == null ? NULL : e.obj);
                    f.pc = trap[2];
                    return;
                }
            }
            thr.frames.pop();
        }
        thr.failed = true;
        thr.failure = e.obj == null ? -e.k : e.obj.array ? 110 : 100 + e.obj.cls;
    }

    private boolean isOf(Object x, int c) {
        if (!(x instanceof Obj o) || o.array) {
            return false;
        }
        for (int at = o.cls; at >= 0; at = cs.get(at).above()) {
            if (at == c) {
                return true;
            }
        }
        return false;
    }

    private static Obj obj(Object x) throws Raised {
        if (x == NULL) {
            throw new Raised(1, null);
        }
        return (Obj) x;
    }

    private static int num(Object x) {
        return (Integer) x;
    }

    private static Object ref(Obj o) {
        return o == null ? NULL : o;
    }

    private static Obj unref(Object x) {
        return x == NULL ? null : (Obj) x;
    }

    private void act(int t, Thr thr, Frame f) throws Raised {
        int[] in = f.met.code.get(f.pc);
        int op = in[0];
        int o = in[1];
        Deque<Object> s = f.stack;
        int next = f.pc + 1;
        if (op >= 4 && op <= 15 && op != 9) {
            int b = num(s.pop());
            int a = num(s.pop());
            s.push(reckon(op, a, b));
        } else if (op >= 19 && op <= 25) {
            next = goes(op, s) ? o : next;
        } else if (op >= 26 && op <= 37) {
            onHeap(op, o, s);
        } else if (op == 38 || op == 39) {
            call(thr, f, op, o);
            return;
        } else if (op >= 40 && op <= 42) {
            Object value = op == 40 ? null : s.pop();
            thr.frames.pop();
            if (!thr.frames.isEmpty()) {
                thr.frames.peek().pc++;
                if (value != null) {
                    thr.frames.peek().stack.push(value);
                }
            }
            return;
        } else if (op >= 48 && op <= 50) {
            withThreads(t, op, obj(s.pop()));
        } else {
            rest(op, o, f);
        }
        f.pc = next;
    }

    private static int reckon(int op, int a, int b) throws Raised {
        if ((op == 7 || op == 8) && b == 0) {
            throw new Raised(2, null);
        }
        switch (op) {
            case 4: return (int) ((long) a + b);
            case 5: return (int) ((long) a - b);
            case 6: return (int) ((long) a * b);
            case 7: return (int) ((long) a / b);
            case 8: return (int) ((long) a % b);
            case 10: return a & b;
            case 11: return a | b;
            case 12: return a ^ b;
            case 13: return (int) ((long) a << (b & 31));
            case 14: return (int) ((long) a >> (b & 31));
            default: return (int) ((a & 0xFFFFFFFFL) >> (b & 31));
        }
    }

    private static boolean goes(int op, Deque<Object> s) {
        switch (op) {
            case 19: return true;
            case 20: return num(s.pop()) == 0;
            case 21: return num(s.pop()) < 0;
            case 22: return num(s.pop()) > 0;
            case 23: return s.pop() == NULL;
            case 24: return s.pop() == s.pop();
            default: {
                int b = num(s.pop());
                return num(s.pop()) < b;
            }
        }
    }

    private void onHeap(int op, int o, Deque<Object> s) throws Raised {
        if (op == 26) {
            Obj made = new Obj();
            made.cls = o;
            int ints = 0;
            int refs = 0;
            for (int at = o; at >= 0; at = cs.get(at).above()) {
                ints += cs.get(at).ints();
                refs += cs.get(at).refs();
            }
            made.ints = new int[ints];
            made.refs = new Obj[refs];
            make(made);
            s.push(made);
        } else if (op >= 27 && op <= 30) {
            Object value = op == 28 || op == 30 ? s.pop() : null;
            Obj x = obj(s.pop());
            if (!isOf(x, o / 8)) {
                throw new Raised(3, null);
            }
            int n = o % 8;
            for (int at = cs.get(o / 8).above(); at >= 0; at = cs.get(at).above()) {
                n += op <= 28 ? cs.get(at).ints() : cs.get(at).refs();
            }
            get(op, x, n, value, s);
        } else if (op == 31 || op == 35) {
            int n = num(s.pop());
            if (n < 0 || n > 200) {
                throw new Raised(4, null);
            }
            Obj made = new Obj();
            made.array = true;
            made.ofRefs = op == 35;
            made.ints = new int[op == 31 ? n : 0];
            made.refs = new Obj[op == 35 ? n : 0];
            make(made);
            s.push(made);
        } else if (op == 34) {
            Obj x = obj(s.pop());
            if (!x.array) {
                throw new Raised(3, null);
            }
            s.push(x.ints.length + x.refs.length);
        } else {
            Object value = op == 33 || op == 37 ? s.pop() : null;
            int i = num(s.pop());
            Obj x = obj(s.pop());
            if (!x.array || x.ofRefs != (op >= 36)) {
                throw new Raised(3, null);
            }
            if (i < 0 || i >= x.ints.length + x.refs.length) {
                throw new Raised(5, null);
            }
            get(op == 32 ? 27 : op == 33 ? 28 : op == 36 ? 29 : 30, x, i, value, s);
        }
    }

    private static void get(int op, Obj x, int n, Object value, Deque<Object> s) {
        switch (op) {
            case 27: s.push(x.ints[n]); break;
            case 28: x.ints[n] = num(value); break;
            case 29: s.push(ref(x.refs[n])); break;
            default: x.refs[n] = unref(value); break;
        }
    }

    int taken() {
        int sum = 0;
        for (Obj o : there) {
            sum += o.bytes();
        }
        return sum;
    }

    private void make(Obj made) throws Raised {
        if (taken() + made.bytes() > heap) {
            collections++;
            there.retainAll(alive());
            if (taken() + made.bytes() > heap) {
                throw new Raised(9, null);
            }
        }
        there.add(made);
    }

    private Set<Obj> alive() {
        Set<Obj> alive = Collections.newSetFromMap(new IdentityHashMap<>());
        Deque<Object> todo = new ArrayDeque<>(Arrays.asList(refStatics));
        for (Thr thr : threads) {
            for (Frame f : thr.frames) {
                todo.addAll(f.stack);
                for (Object l : f.locals) {
                    todo.add(l == null ? NULL : l);
                }
            }
        }
        while (!todo.isEmpty()) {
            if (todo.pop() instanceof Obj o && alive.add(o)) {
                for (Obj r : o.refs) {
                    todo.add(ref(r));
                }
            }
        }
        return alive;
    }

    private void call(Thr thr, Frame f, int op, int o) throws Raised {
        Met like = null;
        for (int m = 0; m < ms.size(); m++) {
            if (op == 38 ? m == o : ms.get(m).name == o) {
                like = ms.get(m);
            }
        }
        Object[] taken = new Object[like.takes().length()];
        for (int i = taken.length - 1; i >= 0; i--) {
            taken[i] = f.stack.pop();
        }
        int m = o;
        if (op == 39) {
            Obj receiver = obj(taken[0]);
            m = receiver.array ? -1 : find(cs, ms, receiver.cls, o);
            if (m < 0) {
                throw new Raised(6, null);
            }
        }
        if (thr.frames.size() == 20) {
            throw new Raised(9, null);
        }
        Frame inner = frame(m);
        System.arraycopy(taken, 0, inner.locals, 0, taken.length);
        thr.frames.push(inner);
    }

    private void withThreads(int t, int op, Obj x) throws Raised {
        if (op == 48) {
            int m = x.array ? -1 : find(cs, ms, x.cls, 0);
            if (m < 0) {
                throw new Raised(6, null);
            }
            if (threads.size() == 6) {
                throw new Raised(7, null);
            }
            begin(m, x);
        } else if (op == 49) {
            if (x.entries == 60000) {
                throw new Raised(8, null);
            }
            x.owner = t;
            x.entries++;
        } else {
            if (x.owner != t) {
                throw new Raised(8, null);
            }
            x.entries--;
            x.owner = x.entries == 0 ? -1 : t;
        }
    }

    private void rest(int op, int o, Frame f) throws Raised {
        Deque<Object> s = f.stack;
        switch (op) {
            case 1: s.push(o); break;
            case 2: s.push(f.locals[o]); break;
            case 3: f.locals[o] = s.pop(); break;
            case 9: s.push(-num(s.pop())); break;
            case 16: s.push(s.peek()); break;
            case 17: s.pop(); break;
            case 18: {
                Object y = s.pop();
                Object x = s.pop();
                s.push(y);
                s.push(x);
                break;
            }
            case 43: throw new Raised(0, obj(s.pop()));
            case 44: s.push(isOf(s.pop(), o) ? 1 : 0); break;
            case 45: s.push(NULL); break;
            case 46: outs.add(num(s.pop())); break;
            case 47: s.push(ins.isEmpty() ? 0 : ins.poll()); break;
            case 51: used = quantum; break;
            case 52: s.push(intStatics[o]); break;
            case 53: intStatics[o] = num(s.pop()); break;
            case 54: s.push(refStatics[o]); break;
            case 55: refStatics[o] = s.pop(); break;
            default: break;
        }
    }

    int out(int i) {
        return i < 0 || i >= 300 || i >= outs.size() ? -2 : outs.get(i);
    }

    int thread(int t, int what) {
        if (t < 0 || t >= threads.size() || what < 0 || what > 2) {
            return -1;
        }
        Thr thr = threads.get(t);
        boolean ended = thr.frames.isEmpty();
        if (what == 0) {
            return !ended ? waits(t) ? 1 : 0 : thr.failed ? 3 : 2;
        }
        return what == 1 ? thr.frames.size() : thr.failure;
    }

    int told(int what) {
        switch (what) {
            case 0: return classes.size();
            case 1: return methods.size();
            case 2: return image == null ? 0 : image.size();
            case 3: return done;
            case 4: return threads.size();
            case 5: return taken();
            case 6: return collections;
            case 7: return outs.size();
            case 8: return ins.size();
            case 9: return fed.size();
            default: return -1;
        }
    }
}
