/** Adds up its inputs, and puts out each sum and 100 divided by it, until a sum is 0. */
public final class Example {
    public static void main(String[] args) {
        PocketMachine x = new PocketMachine();

        // 1. The source: a class with one int field, a method of it with name 3, a static main method with a trap.
        int counter = x.cls(PocketMachine.BAD, 1, 0);
        x.method(counter, 3, 1, 0, 1, 2);               // name 3; one argument, an int; returns an int; two locals
        tell(x, 2, 0, 2, 0, 27, 0, 2, 1, 4, 0, 28, 0);  //  0 ..  5: adds the argument to field 0
        tell(x, 2, 0, 27, 0, 41, 0);                    //  6 ..  8: returns field 0
        int main = x.method(counter, PocketMachine.NONE, 0, 0, 0, 2);
        tell(x, 26, counter, 3, 0);                     //  0 ..  1: a new counter to local 0
        tell(x, 2, 0, 47, 0, 39, 3, 3, 1);              //  2 ..  5: calls name 3 with the next input; to local 1
        tell(x, 2, 1, 46, 0);                           //  6 ..  7: the sum goes out
        tell(x, 1, 100, 2, 1, 7, 0, 46, 0);             //  8 .. 11: 100 divided by the sum goes out
        tell(x, 19, 2);                                 // 12:       goes back to 2
        tell(x, 17, 0, 1, -1, 46, 0, 40, 0);            // 13 .. 16: drops null, puts out - 1, returns
        x.trap(10, 11, 13, -3);                         // exception 2 at 10 (by 0) goes on at 13

        // 2. Linking: the answer is the image's length, or tells what is wrong.
        int length = x.link(main);
        System.out.println("link: " + length);

        // 3. The image may go to a device byte by byte, where it is collected and checked.
        for (int i = 0; i < length; i++) {
            x.feed(x.image(i));
        }
        System.out.println("check: " + x.check());

        // 4. Running: turns of at most 10 instructions, 100 bytes for objects; three inputs.
        System.out.println("boot: " + x.boot(10, 100));
        x.input(4);
        x.input(6);
        x.input(-10);
        System.out.println("run: " + x.run(5000));

        // 5. What went out, how main's thread ended, and what can be told.
        for (int i = 0; i < x.told(7); i++) {
            System.out.println("out(" + i + "): " + x.out(i));
        }
        System.out.println("main ended: " + (x.thread(0, 0) == 2));
        System.out.println("objects take: " + x.told(5) + " bytes");
        System.out.println("sound: " + x.sound());
    }

    private static void tell(PocketMachine x, int... instructionsAndOperands) {
        for (int i = 0; i + 1 < instructionsAndOperands.length; i += 2) {
            x.code(instructionsAndOperands[i], instructionsAndOperands[i + 1]);
        }
    }
}
