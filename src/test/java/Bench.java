/** A PocketMachine with shorter ways to tell it a program, and to ask many answers at once. */
final class Bench {
    static final int BAD = PocketMachine.BAD, NONE = PocketMachine.NONE;
    final PocketMachine x = new PocketMachine();

    /** A class. */
    int cls(int above, int ints, int refs) {
        return x.cls(above, ints, refs);
    }

    /** A static method without arguments that returns nothing, with its code: instruction, operand, .. */
    int main(int locals, int... code) {
        return met(0, NONE, 0, 0, 0, locals, code);
    }

    int met(int cls, int name, int arguments, int references, int returns, int locals, int... code) {
        int m = x.method(cls, name, arguments, references, returns, locals);
        for (int i = 0; i + 1 < code.length; i += 2) {
            x.code(code[i], code[i + 1]);
        }
        return m;
    }

    String image() {
        StringBuilder text = new StringBuilder();
        for (int i = 0; x.image(i) != BAD; i++) {
            text.append(i == 0 ? "" : " ").append(x.image(i));
        }
        return text.toString();
    }

    int[] bytes() {
        int[] bytes = new int[x.told(2)];
        for (int i = 0; i < bytes.length; i++) {
            bytes[i] = x.image(i);
        }
        return bytes;
    }

    /** Feeds the bytes, and asks what they are. */
    int checked(int... bytes) {
        for (int b : bytes) {
            x.feed(b);
        }
        return x.check();
    }

    /** Of every thread what can be asked: its state, its methods one in another, its exception. */
    String threads() {
        StringBuilder text = new StringBuilder();
        for (int t = 0; t < x.told(4); t++) {
            text.append(t == 0 ? "" : " ").append(x.thread(t, 0)).append('/').append(x.thread(t, 1));
            text.append('/').append(x.thread(t, 2));
        }
        return text.toString();
    }

    /** All that can be asked of what runs. */
    String state() {
        StringBuilder text = new StringBuilder(threads());
        for (int what = 3; what <= 8; what++) {
            text.append(what == 3 ? " told " : " ").append(x.told(what));
        }
        return text.append(x.sound() ? " sound " : " unsound ").append(outs()).toString();
    }

    /** The ints that went out. */
    String outs() {
        StringBuilder text = new StringBuilder();
        for (int i = 0; i < x.told(7) && i < 300; i++) {
            text.append(i == 0 ? "" : " ").append(x.out(i));
        }
        return text.toString();
    }

    /** Links, boots with much heap, runs up to 5,000 instructions: what went out, and how main ended. */
    String result(int main) {
        return result(main, 10, 8000);
    }

    String result(int main, int quantum, int heap) {
        int linked = x.link(main);
        if (linked < 0) {
            return "link " + linked;
        }
        x.boot(quantum, heap);
        x.run(5000);
        int state = x.thread(0, 0);
        return outs() + (state == 2 ? "" : state == 3 ? " by " + x.thread(0, 2) : " state " + state);
    }
}
