import java.util.ArrayList;
import java.util.List;

/** Makes programs by dice that mostly link: statements that begin and end with an empty stack. */
final class ProgramMaker {
    record Sig(int cls, int name, int args, int refs, int ret, int locals) { }

    record Body(List<int[]> code, List<int[]> traps) { }

    final List<int[]> classes = new ArrayList<>();
    final List<Sig> sigs = new ArrayList<>();
    final List<Body> bodies = new ArrayList<>();
    private final Dice dice;
    private Sig sig;
    private List<int[]> code;
    private List<Integer> starts;
    private char[] kinds;

    ProgramMaker(Dice dice) {
        this.dice = dice;
        int wantClasses = dice.from(1, dice.chance(10) ? 10 : 4);
        for (int c = 0; c < wantClasses; c++) {
            int above = c == 0 || dice.chance(30) ? -1 : dice.next(c);
            classes.add(new int[] {above, dice.next(4), dice.next(4)});
        }
        int wantMethods = dice.from(1, dice.chance(10) ? 24 : 8);
        sigs.add(new Sig(dice.next(wantClasses), -2, 0, 0, 0, dice.from(4, 10)));
        for (int m = 1; m < wantMethods; m++) {
            addSig();
        }
        for (int m = 0; m < sigs.size(); m++) {
            bodies.add(body(m));
        }
        if (dice.chance(40)) {
            spoil();
        }
    }

    private void addSig() {
        int cls = dice.next(classes.size());
        int name = dice.chance(35) ? -2 : dice.any(0, 0, 1, 2, 3, 7);
        int args = name == 0 ? dice.chance(97) ? 0 : 1 : dice.next(5);
        int refs = dice.next(1 << args);
        int ret = dice.next(3);
        for (Sig s : sigs) {
            if (name != -2 && s.name() == name) {
                if (s.cls() == cls) {
                    return;
                }
                args = s.args();
                refs = s.refs();
                ret = s.ret();
            }
        }
        sigs.add(new Sig(cls, name, args, refs, ret, dice.from(args + 4, 12)));
    }

    private Body body(int m) {
        sig = sigs.get(m);
        code = new ArrayList<>();
        starts = new ArrayList<>();
        kinds = new char[sig.locals()];
        int taken = 0;
        if (sig.name() != -2) {
            kinds[taken++] = 'R';
        }
        for (int a = 0; a < sig.args(); a++) {
            kinds[taken++] = (sig.refs() >> a & 1) == 1 ? 'R' : 'I';
        }
        for (int l = taken; l < sig.locals(); l++) {
            boolean later = l > taken + 1 && dice.chance(50);
            kinds[l] = later ? '-' : l == taken ? 'I' : l == taken + 1 ? 'R' : dice.chance(50) ? 'I' : 'R';
            if (!later) {
                boolean object = kinds[l] == 'R' && dice.chance(60);
                add(kinds[l] == 'I' ? 1 : object ? 26 : 45, object ? cls() : dice.from(-3, 6));
                add(3, l);
            }
        }
        for (int s = 0; m == 0 && s < 3; s++) {
            add(26, cls());
            add(55, s);
        }
        int settled = code.size();
        List<int[]> jumps = new ArrayList<>();
        int most = dice.from(20, 42);
        while (code.size() < most) {
            starts.add(code.size());
            statement(jumps);
        }
        starts.add(code.size());
        giveBack();
        List<int[]> traps = traps(settled);
        for (int[] jump : jumps) {
            boolean forward = dice.chance(70);
            int target = starts.get(dice.next(starts.size()));
            for (int k = 0; forward && k < 8 && target < code.indexOf(jump); k++) {
                target = starts.get(dice.next(starts.size()));
            }
            jump[1] = target;
        }
        while (code.size() > 60) {
            code.remove(code.size() - 1);
        }
        return new Body(code, traps);
    }

    private List<int[]> traps(int settled) {
        List<int[]> traps = new ArrayList<>();
        int end = code.size();
        int handlers = dice.any(0, 1, 1, 2, 2);
        for (int h = 0; h < handlers && code.size() < 54; h++) {
            int handler = code.size();
            int way = dice.next(4);
            if (way == 0) {
                add(17, 0);
            } else if (way == 1 && local('R') >= 0) {
                add(3, local('R'));
            } else if (way == 2) {
                add(44, cls());
                add(46, 0);
            } else {
                add(55, dice.next(8));
            }
            if (dice.chance(50)) {
                add(1, 100 + h);
                add(46, 0);
            }
            if (dice.chance(60)) {
                add(19, starts.get(dice.next(starts.size())));
            } else {
                giveBack();
            }
            int count = dice.from(1, 2);
            for (int t = 0; t < count; t++) {
                int a = dice.chance(95) ? dice.from(settled, end - 1) : dice.next(end);
                int b = dice.chance(60) ? end : dice.from(a + 1, code.size());
                int what = dice.chance(40) ? -1 : dice.chance(50) ? cls() : dice.from(-10, -1);
                traps.add(new int[] {a, b, handler, what});
            }
        }
        return traps;
    }

    /** One or two changes that may make it wrong. */
    private void spoil() {
        int changes = dice.from(1, 2);
        for (int n = 0; n < changes; n++) {
            Body body = bodies.get(dice.next(bodies.size()));
            if (body.traps().size() > 0 && dice.chance(15)) {
                body.traps().get(dice.next(body.traps().size()))[dice.next(4)] = dice.from(-12, 62);
            } else if (body.code().size() > 0) {
                int[] in = body.code().get(dice.next(body.code().size()));
                if (dice.chance(50)) {
                    in[0] = dice.next(56);
                }
                if (dice.chance(50)) {
                    in[1] = dice.chance(80) ? dice.from(-2, 30) : dice.any(-32769, 32768, -32768, 32767, 1 << 30);
                }
            }
        }
    }

    private void add(int op, int o) {
        code.add(new int[] {op, o});
    }

    private int cls() {
        return dice.next(classes.size());
    }

    private int local(char kind) {
        int from = dice.next(kinds.length);
        for (int k = 0; k < kinds.length; k++) {
            int l = (from + k) % kinds.length;
            if (kinds[l] == kind) {
                return l;
            }
        }
        return -1;
    }

    private void giveBack() {
        if (sig.ret() == 1) {
            intValue(1);
        } else if (sig.ret() == 2) {
            refValue(1);
        }
        add(40 + sig.ret(), dice.next(3));
    }

    private void statement(List<int[]> jumps) {
        switch (dice.next(20)) {
            case 0: case 1: intValue(2); add(46, 0); break;
            case 2: intValue(2); add(3, local('I')); break;
            case 3: case 4: refValue(2); add(3, local('R')); break;
            case 5: intValue(1); add(53, dice.next(8)); break;
            case 6: refValue(1); add(55, dice.next(8)); break;
            case 7: jump(jumps); break;
            case 8: setField(); break;
            case 9: setPlace(); break;
            case 10: thread(); break;
            case 11: add(dice.any(0, 51), 0); break;
            case 12: call(1, 0); break;
            case 13: refValue(1); add(dice.any(17, 43, 17, 17, 17), 0); break;
            case 14: case 15: case 16: sameMonitor(); break;
            case 17: thread(); break;
            default: jump(jumps); break;
        }
    }

    private void sameMonitor() {
        add(54, dice.next(2));
        add(dice.any(49, 49, 50), 0);
    }

    private void thread() {
        for (Sig s : sigs) {
            if (s.name() == 0 && dice.chance(70)) {
                add(26, s.cls());
                add(48, 0);
                return;
            }
        }
        refValue(1);
        add(dice.any(48, 49, 50), 0);
    }

    private void jump(List<int[]> jumps) {
        int op = dice.any(20, 20, 21, 22, 23, 23, 24, 25, 25, 19);
        if (op <= 22 && op != 19) {
            intValue(1);
        } else if (op == 23) {
            refValue(1);
        } else if (op == 24) {
            refValue(1);
            refValue(1);
        } else if (op == 25) {
            intValue(1);
            intValue(1);
        }
        int[] in = {op, 0};
        code.add(in);
        jumps.add(in);
    }

    private int field(boolean ints) {
        int from = cls();
        for (int k = 0; k < classes.size(); k++) {
            int c = (from + k) % classes.size();
            int n = classes.get(c)[ints ? 1 : 2];
            if (n > 0) {
                return 8 * c + dice.next(n);
            }
        }
        return -1;
    }

    private void setField() {
        boolean ints = dice.chance(40);
        int o = field(ints);
        if (o < 0) {
            add(0, 0);
            return;
        }
        receiver(o / 8);
        if (ints) {
            intValue(1);
        } else {
            refValue(1);
        }
        add(ints ? 28 : 30, o);
    }

    private void receiver(int c) {
        if (dice.chance(60)) {
            add(26, c);
        } else {
            refValue(1);
        }
    }

    private void setPlace() {
        boolean ints = dice.chance(50);
        refValue(1);
        intValue(0);
        if (ints) {
            intValue(1);
        } else {
            refValue(1);
        }
        add(ints ? 33 : 37, 0);
    }

    /** A call of a method that returns this; false: nothing was added. */
    private boolean call(int deep, int ret) {
        int from = dice.next(sigs.size());
        for (int k = 0; k < sigs.size(); k++) {
            int m = (from + k) % sigs.size();
            Sig s = sigs.get(m);
            if (s.ret() == ret) {
                if (s.name() != -2) {
                    receiver(s.cls());
                }
                for (int a = 0; a < s.args(); a++) {
                    if ((s.refs() >> a & 1) == 1) {
                        refValue(deep - 1);
                    } else {
                        intValue(deep - 1);
                    }
                }
                add(s.name() == -2 ? 38 : 39, s.name() == -2 ? m : s.name());
                return true;
            }
        }
        return false;
    }

    private void intValue(int deep) {
        int way = dice.next(deep <= 0 ? 5 : 14);
        int o;
        switch (way) {
            case 0: case 1: add(1, dice.chance(80) ? dice.from(-3, 6) : dice.any(-128, 127, 128, -129, 200, 201, 32767, -32768, 1000)); break;
            case 2: case 3: add(2, local('I')); break;
            case 4: add(dice.any(47, 52), dice.next(8)); break;
            case 5: case 6: case 7:
                intValue(deep - 1);
                intValue(deep - 1);
                add(dice.any(4, 5, 6, 7, 8, 10, 11, 12, 13, 14, 15), 9);
                break;
            case 8: intValue(deep - 1); add(dice.any(9, 16), 0); if (last() == 16) { add(6, 0); } break;
            case 9:
                o = field(true);
                receiver(Math.max(0, o / 8));
                add(o < 0 ? 34 : 27, o);
                break;
            case 10: refValue(deep - 1); intValue(0); add(32, 0); break;
            case 11: refValue(deep - 1); add(34, 0); break;
            case 12: refValue(deep - 1); add(44, cls()); break;
            default:
                if (!call(deep, 1)) {
                    add(1, 7);
                }
                break;
        }
    }

    private int last() {
        return code.get(code.size() - 1)[0];
    }

    private void refValue(int deep) {
        int way = dice.next(deep <= 0 ? 6 : 12);
        int o;
        switch (way) {
            case 0: add(dice.any(45, 54, 54), dice.next(3)); break;
            case 1: case 2: add(2, local('R')); break;
            case 3: case 4: case 5: add(26, cls()); break;
            case 6: add(1, dice.any(0, 1, 2, 3, 5, 9)); add(dice.any(31, 35), 0); break;
            case 7: intValue(deep - 1); add(dice.any(31, 35), 0); break;
            case 8:
                o = field(false);
                receiver(Math.max(0, o / 8));
                if (o >= 0) {
                    add(29, o);
                }
                break;
            case 9: refValue(deep - 1); intValue(0); add(36, 0); break;
            case 10:
                refValue(deep - 1);
                intValue(0);
                add(18, 0);
                add(3, local('R'));
                add(17, 0);
                add(2, local('R'));
                break;
            default:
                if (!call(deep, 2)) {
                    add(45, 0);
                }
                break;
        }
    }
}
