/** The boundary cases of promises 7 to 9, and of THE IMAGE byte by byte. */
public final class ImageEdgesTest {
    private static final int BAD = PocketMachine.BAD, NONE = PocketMachine.NONE;
    private static final int MIN = Integer.MIN_VALUE, MAX = Integer.MAX_VALUE;
    private static final Due due = new Due("image edges");

    public static void main(String[] args) {
        bytesThatThereAre();
        bytesThatAreFed();
        sixThousand();
        checkOne();
        checkTwo();
        checkThree();
        checkNought();
        checkFour();
        checkInOrder();
        sumThatGoesRound();
        sumOfALinkedImage();
        counts();
        lengthOfTwoBytes();
        superAndFields();
        methodsByName();
        whereCodeIs();
        codesInOrder();
        headOfAMethod();
        mostValues();
        traps();
        neverComeTo();
        constants();
        oneByteOperands();
        targets();
        fieldNumbers();
        othersNothing();
        everyLength();
        longest();
        due.end();
    }

    private static Bench bench() {
        Bench b = new Bench();
        b.cls(BAD, 0, 0);
        return b;
    }

    /** The least image: 19 bytes. */
    private static Bench least() {
        Bench b = bench();
        b.x.link(b.main(0, 40, 0));
        return b;
    }

    private static int[] bytes(Bench b) {
        int[] bytes = new int[b.x.told(2)];
        for (int i = 0; i < bytes.length; i++) {
            bytes[i] = b.x.image(i);
        }
        return bytes;
    }

    private static int sum(int[] bytes) {
        int sum = 0;
        for (int i = 0; i < bytes.length; i++) {
            sum += i == 7 || i == 8 ? 0 : bytes[i];
        }
        return sum;
    }

    /** Puts the right SUM into the bytes. */
    private static int[] sealed(int... bytes) {
        int sum = sum(bytes);
        bytes[7] = sum / 256 % 256;
        bytes[8] = sum % 256;
        return bytes;
    }

    private static int check(PocketMachine x, int... bytes) {
        for (int b : bytes) {
            x.feed(b);
        }
        int answer = x.check();
        due.is("what was collected is gone", x.told(9), 0);
        return answer;
    }

    private static void bytesThatThereAre() {
        due.sentence("Byte i of the image, 0 .. 255. BAD: none such.");
        Bench b = bench();
        for (int i : new int[] {-1, 0, 1, MIN, MAX}) {
            due.is("image(" + i + ") of none", b.x.image(i), BAD);
        }
        b.x.link(b.main(0, 26, 0, 43, 0));
        due.is("the first", b.x.image(0), 80);
        due.is("a byte of 255 is not BAD", b.x.image(9), 255);
        due.is("the last", b.x.image(31), 43);
        for (int i : new int[] {-1, NONE, 32, 33, 5999, MIN, MAX}) {
            due.is("image(" + i + ")", b.x.image(i), BAD);
        }
        b.x.link(b.main(0, 40, 0));
        due.is("the last of a shorter one", b.x.image(18), 40);
        due.is("one of the longer one before it", b.x.image(19), BAD);
    }

    private static void bytesThatAreFed() {
        due.sentence("A byte is collected, 0 .. 255, at most 6,000. False: none such, no room.");
        PocketMachine x = new PocketMachine();
        for (int b : new int[] {-1, -128, 256, 511, MIN, MAX}) {
            due.no("feed(" + b + ")", x.feed(b));
        }
        due.is("none was collected", x.told(9), 0);
        due.yes("feed(0)", x.feed(0));
        due.yes("feed(127)", x.feed(127));
        due.yes("feed(128)", x.feed(128));
        due.yes("feed(255)", x.feed(255));
        due.is("four were", x.told(9), 4);
    }

    private static void sixThousand() {
        due.sentence("at most 6,000. False: none such, no room.");
        // That is far beyond 512 calls; the sentence is looked at all the same.
        PocketMachine x = new PocketMachine();
        for (int i = 0; i < 5999; i++) {
            x.feed(i == 0 ? 80 : i == 1 ? 77 : i == 5 ? 6000 / 256 : i == 6 ? 6000 % 256 : 0);
        }
        due.is("5,999", x.told(9), 5999);
        due.yes("the 6,000th", x.feed(7));
        due.no("a 6,001st", x.feed(7));
        due.no("a 6,002nd that is none", x.feed(256));
        due.is("6,000", x.told(9), 6000);
        due.is("its length is right", x.check(), 3);
        due.is("gone", x.told(9), 0);
        due.yes("room again", x.feed(1));
    }

    private static void checkOne() {
        due.sentence("1 it has fewer than 9 bytes, or bytes 0, 1 are not 80, 77");
        PocketMachine x = new PocketMachine();
        due.is("nothing", x.check(), 1);
        due.is("one byte", check(x, 80), 1);
        due.is("8 bytes", check(x, 80, 77, 0, 0, 0, 0, 8, 0), 1);
        due.is("9 bytes", check(x, sealed(80, 77, 0, 0, 0, 0, 9, 0, 0)), 4);
        due.is("79", check(x, sealed(79, 77, 0, 0, 0, 0, 9, 0, 0)), 1);
        due.is("81", check(x, sealed(81, 77, 0, 0, 0, 0, 9, 0, 0)), 1);
        due.is("76", check(x, sealed(80, 76, 0, 0, 0, 0, 9, 0, 0)), 1);
        due.is("78", check(x, sealed(80, 78, 0, 0, 0, 0, 9, 0, 0)), 1);
        due.is("77, 80", check(x, sealed(77, 80, 0, 0, 0, 0, 9, 0, 0)), 1);
    }

    private static void checkTwo() {
        due.sentence("else 2 its length is not bytes 5 .. 6");
        PocketMachine x = new PocketMachine();
        due.is("one less", check(x, sealed(80, 77, 0, 0, 0, 0, 8, 0, 0)), 2);
        due.is("one more", check(x, sealed(80, 77, 0, 0, 0, 0, 10, 0, 0)), 2);
        due.is("256 more", check(x, sealed(80, 77, 0, 0, 0, 1, 9, 0, 0)), 2);
        due.is("the lower byte first", check(x, sealed(80, 77, 0, 0, 0, 9, 0, 0, 0)), 2);
        due.is("a byte behind it", check(x, sealed(80, 77, 0, 0, 0, 0, 9, 0, 0, 0)), 2);
        due.is("that counts", check(x, sealed(80, 77, 0, 0, 0, 0, 10, 0, 0, 0)), 4);
        for (int length : new int[] {255, 256, 257}) {
            int[] bytes = new int[length];
            bytes[0] = 80;
            bytes[1] = 77;
            bytes[5] = length / 256;
            bytes[6] = length % 256;
            due.is(length + " bytes", check(new PocketMachine(), sealed(bytes)), 4);
            bytes[6] ^= 1;
            due.is(length + " bytes, told otherwise", check(new PocketMachine(), sealed(bytes)), 2);
        }
    }

    private static void checkThree() {
        due.sentence("else 3 the SUM is wrong");
        PocketMachine x = new PocketMachine();
        int sum = 80 + 77 + 9;
        due.is("right", check(x, 80, 77, 0, 0, 0, 0, 9, 0, sum), 4);
        due.is("one less", check(x, 80, 77, 0, 0, 0, 0, 9, 0, sum - 1), 3);
        due.is("one more", check(x, 80, 77, 0, 0, 0, 0, 9, 0, sum + 1), 3);
        due.is("256 more", check(x, 80, 77, 0, 0, 0, 0, 9, 1, sum), 3);
        due.is("the lower byte first", check(x, 80, 77, 0, 0, 0, 0, 9, sum, 0), 3);
        due.is("with bytes 7 and 8 themselves", check(x, 80, 77, 0, 0, 0, 0, 9, 1, 76), 3);
        due.is("above 255", check(x, 80, 77, 90, 0, 0, 0, 9, 1, 0), 4);
        due.is("255", check(x, 80, 77, 89, 0, 0, 0, 9, 0, 255), 4);
    }

    private static void checkNought() {
        due.sentence("else 0 it is the one that was linked last, byte by byte");
        Bench b = least();
        int[] image = bytes(b);
        due.is("the one", check(b.x, image), 0);
        due.is("once more", check(b.x, image), 0);
        due.is("and gone", b.x.check(), 1);
        b.x.link(b.main(3, 40, 0));
        due.is("not the one before", check(b.x, image), 4);
        due.is("the last", check(b.x, bytes(b)), 0);
        b.x.link(b.main(0, 17, 0));
        due.is("the last that was linked, not the one that was wrong", check(b.x, bytes(b)), 0);
        due.no("no boot", b.x.boot(0, 0));
        b.x.boot(5, 50);
        due.is("whatever runs", check(b.x, bytes(b)), 0);
    }

    private static void checkFour() {
        due.sentence("else 4.");
        Bench b = least();
        int[] image = bytes(b);
        due.is("none was linked", check(new PocketMachine(), image), 4);
        for (int i = 2; i < image.length; i++) {
            if (i < 5 || i > 8) {
                int[] other = image.clone();
                other[i]++;
                due.is("byte " + i + " is another", check(b.x, sealed(other)), 4);
            }
        }
        int[] longer = java.util.Arrays.copyOf(image, 20);
        longer[6] = 20;
        due.is("a byte more", check(b.x, sealed(longer)), 4);
        int[] shorter = java.util.Arrays.copyOf(image, 18);
        shorter[6] = 18;
        due.is("a byte less", check(b.x, sealed(shorter)), 4);
    }

    private static void checkInOrder() {
        due.sentence("What was collected is looked at as an image, and gone");
        Bench b = least();
        due.is("8 bytes, not 80, not the length, not the SUM", check(b.x, 1, 2, 3, 4, 5, 6, 7, 8), 1);
        due.is("not 80, not the length, not the SUM", check(b.x, 1, 77, 3, 4, 5, 6, 7, 8, 9), 1);
        due.is("not the length, not the SUM", check(b.x, 80, 77, 3, 4, 5, 6, 7, 8, 9), 2);
        due.is("not the SUM, not the one", check(b.x, 80, 77, 3, 4, 5, 0, 9, 8, 9), 3);
        due.is("not the one", check(b.x, sealed(80, 77, 3, 4, 5, 0, 9, 8, 9)), 4);
    }

    private static void sumThatGoesRound() {
        due.sentence("7 .. 8 the SUM of all other bytes, modulo 65,536 (two bytes: the higher first, so everywhere).");
        for (int want : new int[] {65535, 65536, 65537, 65536 + 255, 65536 + 256}) {
            int[] bytes = new int[300];
            bytes[0] = 80;
            bytes[1] = 77;
            bytes[5] = 300 / 256;
            bytes[6] = 300 % 256;
            int left = want - sum(bytes);
            for (int i = 9; left > 0; i++) {
                bytes[i] = Math.min(255, left);
                left -= bytes[i];
            }
            bytes[7] = want % 65536 / 256;
            bytes[8] = want % 256;
            due.is("" + want, check(new PocketMachine(), bytes), 4);
            bytes[8] ^= 255;
            due.is("not " + want, check(new PocketMachine(), bytes), 3);
        }
    }

    private static final int PAIRS = 27, FILLED = 12;

    /** Four methods of large constants, each calling the next one, and a fifth of twelve small ones. */
    private static Bench heavy(int[] fill) {
        Bench b = bench();
        for (int m = 0; m < 4; m++) {
            b.main(0);
            for (int i = 0; i < PAIRS; i++) {
                b.x.code(1, -257);
                b.x.code(17, 0);
            }
            b.x.code(38, m + 1);
            b.x.code(40, 0);
        }
        b.main(0);
        for (int v : fill) {
            b.x.code(1, v);
            b.x.code(17, 0);
        }
        b.x.code(40, 0);
        return b;
    }

    /** The bytes that the document wants of that, but for the SUM. */
    private static int[] heavyBytes(int[] fill) {
        int each = 4 * PAIRS + 3;
        int length = 9 + 5 * 9 + 4 * each + 3 * FILLED + 1;
        int[] bytes = new int[length];
        int[] head = {80, 77, 0, 5, 0, length / 256, length % 256};
        System.arraycopy(head, 0, bytes, 0, head.length);
        for (int m = 0; m < 5; m++) {
            int at = 9 + 5 * 9 + each * m;
            int[] row = {at / 256, at % 256, 0, m < 4 ? each : 3 * FILLED + 1, 0, 0, 1, 0, 0};
            System.arraycopy(row, 0, bytes, 9 + 9 * m, 9);
            int[] end = {38, m + 1, 40};
            for (int i = 0; i < PAIRS && m < 4; i++) {
                int[] pair = {61, 254, 255, 17};
                System.arraycopy(pair, 0, bytes, at + 4 * i, 4);
                System.arraycopy(end, 0, bytes, at + 4 * PAIRS, 3);
            }
        }
        for (int i = 0; i < FILLED; i++) {
            int[] small = {1, fill[i], 17};
            System.arraycopy(small, 0, bytes, length - 1 - 3 * FILLED + 3 * i, 3);
        }
        bytes[length - 1] = 40;
        return bytes;
    }

    private static void sumOfALinkedImage() {
        due.sentence("the SUM of all other bytes, modulo 65,536");
        for (int want : new int[] {65535, 65536, 65537}) {
            int[] fill = new int[FILLED];
            int left = want - sum(heavyBytes(fill));
            for (int i = 0; i < FILLED; i++) {
                fill[i] = Math.min(127, left);
                left -= fill[i];
            }
            int[] bytes = heavyBytes(fill);
            due.is("all bytes together", sum(bytes), want);
            Bench b = heavy(fill);
            due.is("link", b.x.link(0), bytes.length);
            due.is("its higher byte at " + want, b.x.image(7), want % 65536 / 256);
            due.is("its lower byte at " + want, b.x.image(8), want % 256);
        }
    }

    private static void counts() {
        due.sentence("byte 0 80, 1 77, 2 the number of classes, 3 of methods, 4 main");
        Bench b = least();
        due.text("none and one", first(b, 0, 5), "80 77 0 1 0");
        Bench c = new Bench();
        for (int k = 0; k < 10; k++) {
            c.cls(k - 1, 0, 0);
        }
        for (int m = 0; m < 24; m++) {
            c.main(0, m > 0 ? 38 : 0, m - 1, 40, 0);
        }
        c.x.link(23);
        due.text("no class, 24 methods, the last of which is main", first(c, 0, 5), "80 77 0 24 23");
        Bench d = new Bench();
        for (int k = 0; k < 10; k++) {
            d.cls(k - 1, 0, 0);
        }
        d.x.link(d.main(0, 26, 9, 43, 0));
        due.text("10 classes", first(d, 0, 5), "80 77 10 1 0");
    }

    private static String first(Bench b, int from, int count) {
        StringBuilder text = new StringBuilder();
        for (int i = 0; i < count; i++) {
            text.append(i == 0 ? "" : " ").append(b.x.image(from + i));
        }
        return text.toString();
    }

    private static void lengthOfTwoBytes() {
        due.sentence("5 .. 6 its length");
        // Five methods: 9 + 45 bytes before the codes, each with a code of so many bytes.
        for (int length : new int[] {254, 255, 256, 257}) {
            Bench b = bench();
            for (int m = 0; m < 5; m++) {
                b.main(0);
                int bytes = m < 4 ? 49 : length - 9 - 45 - 4 * 49;
                b.x.code(m < 4 ? 38 : 0, m + 1);
                for (int i = m < 4 ? 3 : 2; i < bytes; i++) {
                    b.x.code(0, 0);
                }
                b.x.code(40, 0);
            }
            due.is("link", b.x.link(0), length);
            due.text(length + " bytes", first(b, 5, 2), length / 256 + " " + length % 256);
            due.is("told(2)", b.x.told(2), length);
            due.is("the last byte", b.x.image(length - 1), 40);
            due.is("none behind it", b.x.image(length), BAD);
        }
        due.is("the least length", least().x.told(2), 19);
    }

    private static void superAndFields() {
        due.sentence("For each class: super (255: none), int fields with those above, reference fields with those above");
        Bench b = new Bench();
        for (int c = 0; c < 10; c++) {
            b.cls(c - 1, 6, 6);
        }
        b.x.link(b.main(0, 26, 9, 43, 0));
        due.text("the first", first(b, 9, 3), "255 6 6");
        due.text("the second", first(b, 9 + 11, 3), "0 12 12");
        due.text("the last, with 60 fields each", first(b, 9 + 9 * 11, 3), "8 60 60");
        Bench c = new Bench();
        c.cls(BAD, 0, 0);
        c.cls(BAD, 0, 6);
        c.cls(1, 6, 0);
        c.x.link(c.main(0, 26, 0, 17, 0, 26, 2, 43, 0));
        due.text("no fields", first(c, 9, 3), "255 0 0");
        due.text("references only", first(c, 9 + 11, 3), "255 0 6");
        due.text("ints, and references above", first(c, 9 + 22, 3), "1 6 6");
    }

    private static void methodsByName() {
        due.sentence("then for names 0 .. 7 its method, own or the nearest from above (255: none, or that one is not reached)");
        Bench b = new Bench();
        b.cls(BAD, 0, 0);
        b.cls(0, 0, 0);
        b.cls(1, 0, 0);
        for (int name = 0; name < 8; name++) {
            b.met(0, name, 0, 0, 0, 1, 40, 0);
        }
        b.met(1, 0, 0, 0, 0, 1, 40, 0);
        b.met(2, 7, 0, 0, 0, 1, 40, 0);
        int all = b.main(0);
        for (int name = 0; name < 8; name++) {
            for (int c = 0; c < 3; c++) {
                b.x.code(26, c);
                b.x.code(39, name);
            }
        }
        b.x.code(40, 0);
        b.x.link(all);
        due.text("all of class 0", first(b, 9 + 3, 8), "0 1 2 3 4 5 6 7");
        due.text("its own name 0", first(b, 20 + 3, 8), "8 1 2 3 4 5 6 7");
        due.text("its own name 7, name 0 of the class between", first(b, 31 + 3, 8), "8 1 2 3 4 5 6 9");
        b.x.link(b.main(0, 26, 0, 39, 0, 45, 0, 44, 2, 46, 0, 40, 0));
        due.text("one is reached", first(b, 9 + 3, 8), "0 255 255 255 255 255 255 255");
        due.text("that of class 1 is not, so it is none, not the one above", first(b, 20 + 3, 8),
                "255 255 255 255 255 255 255 255");
        due.text("for a class below, too", first(b, 31 + 3, 8), "255 255 255 255 255 255 255 255");
    }

    private static void whereCodeIs() {
        due.sentence("For each method: 2 bytes where its code is (from the image's beginning), 2 how long that is");
        for (int at : new int[] {255, 256, 257}) {
            Bench b = bench();
            // Four methods: 45 bytes before the codes; three codes reach up to the fourth.
            int left = at - 45;
            for (int m = 0; m < 3; m++) {
                int bytes = m < 2 ? 62 : left - 2 * 62;
                b.main(0);
                // A jump to the next instruction takes three bytes.
                int jumps = Math.max(0, (bytes - 3 - 57) / 2 + 1);
                int plain = bytes - 3 - 3 * jumps;
                for (int i = 0; i < jumps; i++) {
                    b.x.code(19, i + 1);
                }
                for (int i = 0; i < plain; i++) {
                    b.x.code(0, 0);
                }
                b.x.code(38, m + 1);
                b.x.code(40, 0);
            }
            b.main(0, 40, 0);
            due.is("link", b.x.link(0), at + 1);
            due.text("code at " + at, first(b, 9 + 27, 4), at / 256 + " " + at % 256 + " 0 1");
            due.is("there it is", b.x.image(at), 40);
            b.x.boot(50, 50);
            b.x.run(5000);
            due.is("it is found", b.x.thread(0, 0), 2);
        }
        Bench c = bench();
        int longest = c.main(0);
        for (int i = 0; i < 60; i++) {
            c.x.code(19, (i + 1) % 60);
        }
        due.is("60 instructions of 3", c.x.link(longest), 18 + 180);
        due.text("how long", first(c, 9, 4), "0 18 0 180");
    }

    private static void codesInOrder() {
        due.meeting("Then the codes.", "any other one its number");
        Bench b = bench();
        b.main(0, 38, 2, 38, 1, 40, 0);
        b.main(0, 0, 0, 40, 0);
        b.main(0, 45, 0, 17, 0, 51, 0, 40, 0);
        b.main(0, 17, 0);
        int length = b.x.link(0);
        due.is("three heads, codes of 5, 2 and 4", length, 9 + 27 + 11);
        due.text("in the order of the methods", first(b, 36, 11), "38 2 38 1 40 0 40 45 17 51 40");
        for (int m = 0; m < 3; m++) {
            due.text("where it is", first(b, 9 + 9 * m, 4), "0 " + (m == 0 ? 36 : m == 1 ? 41 : 43) + " 0 " + (m == 0 ? 5 : m == 1 ? 2 : 4));
        }
    }

    private static void headOfAMethod() {
        due.sentence("arguments (with the receiver), locals");
        Bench b = bench();
        b.met(0, 0, 4, 15, 2, 12, 45, 0, 42, 0);
        b.met(0, NONE, 4, 0, 1, 4, 1, 0, 41, 0);
        b.met(0, 1, 0, 0, 0, 1, 40, 0);
        int m = b.main(0, 26, 0, 45, 0, 45, 0, 45, 0, 45, 0, 39, 0, 17, 0, 1, 0, 1, 0, 1, 0, 1, 0, 38, 1, 17, 0,
                26, 0, 39, 1, 40, 0);
        b.x.link(m);
        due.text("a receiver and four", first(b, 20 + 4, 5), "5 12 1 2 0");
        due.text("four", first(b, 29 + 4, 5), "4 4 1 1 0");
        due.text("a receiver", first(b, 38 + 4, 5), "1 1 0 0 0");
        due.text("none", first(b, 47 + 4, 5), "0 0 5 0 0");
    }

    private static int most(int... code) {
        Bench b = bench();
        b.x.link(b.main(1, code));
        return b.x.image(9 + 6);
    }

    private static void mostValues() {
        due.sentence("the most values on its stack with which any instruction was come to");
        due.is("none", most(40, 0), 0);
        due.is("one", most(1, 0, 40, 0), 1);
        due.is("one, though none is left", most(1, 0, 17, 0, 40, 0), 1);
        due.is("ten", most(1, 0, 1, 0, 1, 0, 1, 0, 1, 0, 1, 0, 1, 0, 1, 0, 1, 0, 1, 0, 40, 0), 10);
        due.is("what no one comes to does not count", most(1, 0, 40, 0, 1, 0, 1, 0, 40, 0), 1);
        Bench b = bench();
        int m = b.main(0, 40, 0, 17, 0, 40, 0);
        b.x.trap(0, 1, 1, -1);
        b.x.link(m);
        due.is("a handler's one", b.x.image(9 + 6), 1);
    }

    private static void traps() {
        due.sentence("then for each trap 2 bytes a, b, handler each (offsets from the code's beginning), "
                + "and one byte: a class, or 256 less k for - k.");
        Bench b = new Bench();
        for (int c = 0; c < 10; c++) {
            b.cls(BAD, 0, 0);
        }
        int m = b.main(0);
        b.x.code(1, 300);
        b.x.code(40, 0);
        for (int i = 2; i < 58; i++) {
            b.x.code(19, 99);
        }
        b.x.code(17, 0);
        b.x.code(40, 0);
        int[] whats = {-1, -2, -10, 0, 9, -9};
        for (int what : whats) {
            b.x.trap(what == -1 ? 0 : 1, what == -1 ? 60 : 2, 58, what);
        }
        b.x.link(m);
        int heads = 9 + 2 * 11;
        due.is("six", b.x.image(heads + 8), 6);
        // 3 bytes, 1, 56 of what is never come to, and two more.
        due.text("- 1, all instructions", first(b, heads + 9, 7), "0 0 0 62 0 60 255");
        due.text("- 2, one instruction", first(b, heads + 16, 7), "0 3 0 4 0 60 254");
        due.text("- 10", first(b, heads + 23, 7), "0 3 0 4 0 60 246");
        due.text("class 0", first(b, heads + 30, 7), "0 3 0 4 0 60 0");
        due.text("class 9, which is 1", first(b, heads + 37, 7), "0 3 0 4 0 60 1");
        due.text("- 9", first(b, heads + 44, 7), "0 3 0 4 0 60 247");
        due.is("none", least().x.image(9 + 8), 0);
        Bench c = bench();
        c.main(0);
        for (int i = 0; i < 59; i++) {
            c.x.code(19, i + 1);
        }
        c.x.code(19, 0);
        c.x.trap(58, 60, 59, -1);
        c.x.trap(59, 60, 0, -1);
        due.is("a handler with another stack", c.x.link(0), -1059);
        Bench d = bench();
        d.main(0);
        for (int i = 0; i < 58; i++) {
            d.x.code(19, i < 57 ? i + 1 : 0);
        }
        d.x.code(23, 59);
        d.x.code(19, 0);
        d.x.trap(57, 58, 58, -1);
        d.x.link(0);
        due.text("the highest offsets", first(d, 18, 7), "0 171 0 174 0 174 255");
    }

    private static String code(int... code) {
        Bench b = bench();
        int length = b.x.link(b.main(12, code));
        return length < 0 ? "link " + length : first(b, 18, length - 18);
    }

    private static void neverComeTo() {
        due.sentence("An instruction that was never come to is a 0");
        due.text("behind a return", code(40, 0, 40, 0, 19, 0, 1, 300, 61, 0), "40 0 0 0");
        due.text("between", code(19, 2, 1, 300, 40, 0), "19 0 4 0 40");
        due.text("one that was come to as nothing is a 0, too", code(0, 0, 40, 0), "0 40");
        Bench b = bench();
        int m = b.main(0, 40, 0, 17, 0, 40, 0);
        b.x.trap(1, 3, 1, -1);
        b.x.link(m);
        due.text("a handler of what was never come to", first(b, 18 + 7, 3), "40 0 0");
    }

    private static void constants() {
        due.sentence("1: one byte for - 128 .. 127, otherwise the number is 61, and two");
        due.text("127", code(1, 127, 40, 0), "1 127 40");
        due.text("128", code(1, 128, 40, 0), "61 0 128 40");
        due.text("- 128", code(1, -128, 40, 0), "1 128 40");
        due.text("- 129", code(1, -129, 40, 0), "61 255 127 40");
        due.text("0", code(1, 0, 40, 0), "1 0 40");
        due.text("- 1", code(1, -1, 40, 0), "1 255 40");
        due.text("255", code(1, 255, 40, 0), "61 0 255 40");
        due.text("256", code(1, 256, 40, 0), "61 1 0 40");
        due.text("- 256", code(1, -256, 40, 0), "61 255 0 40");
        due.text("- 257", code(1, -257, 40, 0), "61 254 255 40");
        due.text("32,767", code(1, 32767, 40, 0), "61 127 255 40");
        due.text("- 32,768", code(1, -32768, 40, 0), "61 128 0 40");
    }

    private static void oneByteOperands() {
        due.sentence("2, 3, 26, 38, 39, 44, 52 .. 55: one byte (the new number)");
        due.text("local 0", code(1, 0, 3, 0, 2, 0, 40, 0), "1 0 3 0 2 0 40");
        due.text("local 11", code(1, 0, 3, 11, 2, 11, 40, 0), "1 0 3 11 2 11 40");
        due.text("statics 0", code(52, 0, 53, 0, 54, 0, 55, 0, 40, 0), "52 0 53 0 54 0 55 0 40");
        due.text("statics 7", code(52, 7, 53, 7, 54, 7, 55, 7, 40, 0), "52 7 53 7 54 7 55 7 40");
        Bench b = new Bench();
        for (int c = 0; c < 10; c++) {
            b.cls(BAD, 0, 0);
        }
        b.met(9, 7, 0, 0, 0, 1, 40, 0);
        while (b.x.told(1) < 23) {
            b.main(0, 40, 0);
        }
        int length = b.x.link(b.main(0, 38, 22, 26, 9, 16, 0, 39, 7, 44, 9, 40, 0));
        due.text("class 9 is 0, method 22 is 1, name 7 is 7", first(b, length - 10, 10), "38 1 26 0 16 39 7 44 0 40");
    }

    private static void targets() {
        due.sentence("19 .. 25: two bytes, the offset from the code's beginning");
        due.text("back to the first", code(19, 0), "19 0 0");
        due.text("20 .. 22", code(47, 0, 20, 0, 47, 0, 21, 0, 47, 0, 22, 0, 40, 0), "47 20 0 0 47 21 0 0 47 22 0 0 40");
        due.text("23 .. 25", code(45, 0, 23, 9, 45, 0, 45, 0, 24, 9, 47, 0, 47, 0, 25, 9, 0, 0, 40, 0),
                "45 23 0 15 45 45 24 0 15 47 47 25 0 15 0 40");
        Bench b = bench();
        b.main(0);
        for (int i = 0; i < 59; i++) {
            b.x.code(19, i == 0 ? 59 : i);
        }
        b.x.code(19, 1);
        due.is("59 of 60 are never come to but one", b.x.link(0), 18 + 3 + 3 + 57 + 3);
        due.text("behind a byte for each of them", first(b, 18, 3), "19 0 63");
        Bench c = bench();
        c.main(0, 47, 0);
        for (int i = 1; i < 59; i++) {
            c.x.code(i % 2 == 1 ? 20 : 47, 59);
        }
        c.x.code(40, 0);
        due.is("no way but wrong ones", c.x.link(0), -1059);
        Bench d = bench();
        d.main(0);
        for (int i = 0; i < 59; i++) {
            d.x.code(19, i + 1);
        }
        d.x.code(19, 59);
        d.x.link(0);
        due.text("the highest offset", first(d, 18 + 177, 3), "19 0 177");
    }

    private static void fieldNumbers() {
        due.sentence("27 .. 30: class, and the field's number (those above first)");
        Bench b = new Bench();
        for (int c = 0; c < 10; c++) {
            b.cls(c - 1, 6, 6);
        }
        int length = b.x.link(b.main(0, 45, 0, 27, 0, 17, 0, 45, 0, 1, 0, 28, 5, 45, 0, 29, 72, 17, 0,
                45, 0, 45, 0, 30, 77, 45, 0, 27, 77, 17, 0, 40, 0));
        due.text("of the first and of the last class", first(b, length - 27, 27),
                "45 27 0 0 17 45 1 0 28 0 5 45 29 9 54 17 45 45 30 9 59 45 27 9 59 17 40");
        Bench c = new Bench();
        c.cls(BAD, 1, 5);
        c.cls(0, 4, 2);
        length = c.x.link(c.main(0, 45, 0, 27, 11, 17, 0, 45, 0, 29, 9, 17, 0, 40, 0));
        due.text("ints behind ints, references behind references", first(c, length - 11, 11),
                "45 27 1 4 17 45 29 1 6 17 40");
    }

    private static void othersNothing() {
        due.sentence("others nothing.");
        due.text("0, 4 .. 15", code(0, 9, 47, 9, 47, 9, 47, 9, 47, 9, 47, 9, 47, 9, 47, 9, 47, 9, 47, 9, 4, 9, 5, 9, 6, 9,
                7, 9, 8, 9, 9, 9, 10, 9, 11, 9, 12, 9, 47, 9, 13, 9, 47, 9, 14, 9, 47, 9, 15, 9, 40, 9),
                "0 47 47 47 47 47 47 47 47 47 4 5 6 7 8 9 10 11 12 47 13 47 14 47 15 40");
        due.text("16 .. 18, 31 .. 37", code(47, 9, 16, 9, 18, 9, 17, 9, 31, 9, 47, 9, 32, 9, 35, 9, 47, 9, 36, 9, 34, 9,
                17, 9, 45, 9, 47, 9, 47, 9, 33, 9, 45, 9, 47, 9, 45, 9, 37, 9, 40, 9),
                "47 16 18 17 31 47 32 35 47 36 34 17 45 47 47 33 45 47 45 37 40");
        due.text("43, 45 .. 47, 49 .. 51", code(45, 9, 49, 9, 45, 9, 50, 9, 51, 9, 47, 9, 46, 9, 45, 9, 43, 9),
                "45 49 45 50 51 47 46 45 43");
        Bench b = bench();
        b.met(0, 0, 0, 0, 1, 1, 47, 9, 41, 9);
        b.met(0, NONE, 0, 0, 2, 1, 45, 9, 42, 9);
        int length = b.x.link(b.main(0, 26, 0, 48, 9, 38, 1, 17, 9, 40, 9));
        due.text("41, 42, 48", first(b, length - 11, 11), "47 41 45 42 26 0 48 38 1 17 40");
    }

    /** What each instruction takes, and how many bytes it has. */
    private static final String[] TAKEN = {
        "", "", "", "I", "II", "II", "II", "II", "II", "I", "II", "II", "II", "II", "II", "II", "I", "I", "II", "",
        "I", "I", "I", "R", "RR", "II", "", "R", "RI", "R", "RR", "I", "RI", "RII", "R", "I", "RI", "RIR", "", "R",
        "", "I", "R", "R", "R", "", "I", "", "R", "R", "R", "", "", "I", "", "R"};
    private static final int[] BYTES = {
        1, 2, 2, 2, 1, 1, 1, 1, 1, 1, 1, 1, 1, 1, 1, 1, 1, 1, 1, 3, 3, 3, 3, 3, 3, 3, 2, 3, 3, 3, 3, 1, 1, 1, 1, 1, 1, 1,
        2, 2, 1, 1, 1, 1, 2, 1, 1, 1, 1, 1, 1, 1, 2, 2, 2, 2};

    private static void everyLength() {
        due.sentence("2 how long that is");
        for (int op = 0; op <= 55; op++) {
            Bench b = new Bench();
            b.cls(BAD, 6, 6);
            b.met(0, 0, 0, 0, 0, 1, 40, 0);
            b.met(0, NONE, 0, 0, op == 41 || op == 42 ? op - 40 : 0, 1, 45, 0, 3, 0);
            for (int i = 0; i < TAKEN[op].length(); i++) {
                b.x.code(TAKEN[op].charAt(i) == 'I' ? 47 : 45, 0);
            }
            // Local 0 is set; the one behind goes to itself, and so does a jump.
            int next = 2 + TAKEN[op].length() + 1;
            boolean jumps = op >= 19 && op <= 25;
            b.x.code(op, jumps ? next : op == 38 ? 2 : 0);
            b.x.code(19, next);
            b.met(0, NONE, 0, 0, 0, 0, 40, 0);
            due.yes(op + " links", b.x.link(1) > 0);
            int head = 9 + 11 * b.x.image(2) + 9 * b.x.image(4);
            int behind = op >= 40 && op <= 43 ? 1 : 3;
            due.is("with " + op, b.x.image(head + 2) * 256 + b.x.image(head + 3),
                    1 + 2 + TAKEN[op].length() + BYTES[op] + behind);
        }
    }

    /** As long as one can be: only 23 calls are shorter than three bytes, and every method has six traps. */
    private static void longest() {
        due.sentence("THE IMAGE");
        Bench b = new Bench();
        for (int c = 0; c < 10; c++) {
            b.cls(c - 1, 6, 6);
        }
        for (int m = 0; m < 24; m++) {
            b.main(12);
            for (int i = 0; i < 57; i++) {
                b.x.code(m == 0 && i < 23 ? 38 : 19, i + 1);
            }
            b.x.code(19, 0);
            b.x.code(23, 59);
            b.x.code(19, 0);
            for (int t = 0; t < 6; t++) {
                b.x.trap(t, 57, 58, t == 0 ? 9 : -t);
            }
        }
        int length = 9 + 10 * 11 + 24 * (9 + 6 * 7 + 180) - 23;
        due.is("its length", b.x.link(0), length);
        due.is("in bytes 5 and 6", b.x.image(5) * 256 + b.x.image(6), length);
        due.is("its last byte but two", b.x.image(length - 3), 19);
        due.is("none behind the last", b.x.image(length), BAD);
        due.is("where the last code is", b.x.image(9 + 110 + 23 * 51) * 256 + b.x.image(9 + 110 + 23 * 51 + 1), length - 180);
        due.yes("it boots", b.x.boot(50, 50));
        due.is("it runs", b.x.run(100), 100);
    }
}
