/** Promises 7 to 9: image, feed, check. */
public final class ImageTest {
    private static final int BAD = PocketMachine.BAD, NONE = PocketMachine.NONE;
    private static final Due due = new Due("image");

    public static void main(String[] args) {
        edges();
        constants();
        everyOperand();
        numbersAnew();
        methodsOfClasses();
        trapsAndDeadCode();
        longImage();
        longestImage();
        feeding();
        checking();
        due.end();
    }

    /** The bytes with the length and the SUM put in. */
    private static String sealed(String text) {
        String[] parts = text.trim().split("\\s+");
        int sum = 0;
        parts[5] = "" + (parts.length >> 8);
        parts[6] = "" + (parts.length & 255);
        for (int i = 0; i < parts.length; i++) {
            sum += i == 7 || i == 8 ? 0 : Integer.parseInt(parts[i]);
        }
        parts[7] = "" + (sum >> 8 & 255);
        parts[8] = "" + (sum & 255);
        return String.join(" ", parts);
    }

    private static void edges() {
        Bench b = new Bench();
        due.is("nothing was linked", b.x.image(0), BAD);
        b.cls(BAD, 0, 0);
        due.is("length", b.x.link(b.main(2, 40, 0)), 19);
        due.text("the least image", b.image(), "80 77 0 1 0 0 19 0 238 0 18 0 1 0 2 0 0 0 40");
        due.is("image(- 1)", b.x.image(-1), BAD);
        due.is("image(18)", b.x.image(18), 40);
        due.is("image(19)", b.x.image(19), BAD);
        due.is("image(2^31 - 1)", b.x.image(Integer.MAX_VALUE), BAD);
    }

    private static void constants() {
        Bench b = new Bench();
        b.cls(BAD, 0, 0);
        int m = b.main(0, 1, 127, 1, 128, 1, -128, 1, -129, 1, 0, 1, -1, 1, 32767, 1, -32768, 40, 9);
        b.x.link(m);
        due.text("constants", b.image(), sealed("80 77 0 1 0 0 0 0 0 0 18 0 21 0 0 8 0 0 "
                + "1 127 61 0 128 1 128 61 255 127 1 0 1 255 61 127 255 61 128 0 40"));
    }

    private static void everyOperand() {
        Bench b = new Bench();
        b.cls(BAD, 3, 2);
        b.cls(0, 2, 1);
        int s = b.met(0, NONE, 2, 2, 0, 2, 40, 0);
        b.met(1, 6, 1, 0, 2, 3, 45, 0, 42, 0);
        int m = b.main(3,
                26, 1, 3, 2, 2, 2, 27, 9, 17, 0, 2, 2, 1, 4, 28, 2,
                2, 2, 29, 8, 17, 0, 2, 2, 45, 0, 30, 1,
                47, 0, 45, 0, 38, s, 2, 2, 1, 5, 39, 6, 44, 0, 20, 26,
                52, 7, 53, 6, 54, 5, 55, 4, 40, 0);
        due.is("length", b.x.link(m), 9 + 22 + 27 + 1 + 2 + 53);
        due.text("every sort of operand", b.image(), sealed("80 77 2 3 2 0 0 0 0 "
                + "255 3 2 255 255 255 255 255 255 255 255  0 5 3 255 255 255 255 255 255 1 255 "
                + "0 58 0 1 2 2 0 0 0  0 59 0 2 2 3 1 2 0  0 61 0 53 0 3 2 0 0 "
                + "40  45 42 "
                + "26 1 3 2 2 2 27 1 4 17 2 2 1 4 28 0 2 "
                + "2 2 29 1 2 17 2 2 45 30 0 1 "
                + "47 45 38 0 2 2 1 5 39 6 44 0 20 0 52 "
                + "52 7 53 6 54 5 55 4 40"));
    }

    private static void numbersAnew() {
        Bench b = new Bench();
        b.cls(BAD, 1, 0);
        b.cls(BAD, 0, 1);
        b.cls(1, 2, 0);
        b.cls(2, 0, 0);
        b.cls(BAD, 6, 6);
        b.met(0, NONE, 0, 0, 0, 0, 40, 0);
        b.met(4, NONE, 0, 0, 0, 0, 45, 0, 44, 2, 17, 0, 40, 0);
        int m = b.met(4, NONE, 0, 0, 0, 1, 38, 1, 45, 0, 27, 16, 17, 0, 40, 0);
        b.x.link(m);
        due.text("classes 1 and 2 are 0 and 1, methods 1 and 2 too", b.image(), sealed("80 77 2 2 1 0 0 0 0 "
                + "255 0 1 255 255 255 255 255 255 255 255  0 2 1 255 255 255 255 255 255 255 255 "
                + "0 49 0 5 0 0 1 0 0  0 54 0 8 0 1 1 0 0 "
                + "45 44 1 17 40  38 0 45 27 1 0 17 40"));
    }

    private static void methodsOfClasses() {
        Bench b = new Bench();
        b.cls(BAD, 0, 0);
        b.cls(0, 0, 0);
        b.cls(1, 0, 0);
        b.met(0, 3, 0, 0, 0, 1, 40, 0);
        b.met(2, 3, 0, 0, 0, 1, 40, 0);
        b.met(0, 4, 0, 0, 0, 1, 40, 0);
        int m = b.main(0, 26, 1, 39, 3, 45, 0, 44, 2, 17, 0, 40, 0);
        b.x.link(m);
        // Class 2 has a method 3 of its own that is not reached: 255, though the one above it is.
        due.text("own or the nearest from above", b.image(), sealed("80 77 3 2 1 0 0 0 0 "
                + "255 0 0 255 255 255 0 255 255 255 255  0 0 0 255 255 255 0 255 255 255 255 "
                + "1 0 0 255 255 255 255 255 255 255 255 "
                + "0 60 0 1 1 1 0 0 0  0 61 0 9 0 0 1 0 0  40  26 1 39 3 45 44 2 17 40"));
    }

    private static void trapsAndDeadCode() {
        Bench b = new Bench();
        b.cls(BAD, 0, 0);
        b.cls(BAD, 0, 0);
        int m = b.main(1, 1, 300, 17, 0, 19, 4, 1, 300, 40, 0, 17, 0, 40, 0, 19, 99);
        b.x.trap(0, 8, 5, -1);
        b.x.trap(1, 4, 5, -10);
        b.x.trap(0, 1, 5, 1);
        due.is("length", b.x.link(m), 9 + 11 + 9 + 21 + 12);
        due.text("traps, dead code, and only class 1", b.image(), sealed("80 77 1 1 0 0 0 0 0 "
                + "255 0 0 255 255 255 255 255 255 255 255 "
                + "0 50 0 12 0 1 1 0 3  0 0 0 12 0 9 255  0 3 0 8 0 9 246  0 0 0 3 0 9 0 "
                + "61 1 44 17 19 0 8 0 40 17 40 0"));
    }

    private static void longImage() {
        Bench b = new Bench();
        for (int c = 0; c < 10; c++) {
            b.cls(c - 1, 6, 6);
        }
        for (int m = 0; m < 24; m++) {
            b.x.method(0, NONE, 0, 0, 0, 12);
            for (int i = 0; i < 58; i++) {
                b.x.code(i % 2 == 0 ? 1 : i == 57 ? 46 : 20, i % 2 == 0 ? 32767 : i + 1);
            }
            b.x.code(m < 23 ? 38 : 51, m + 1);
            b.x.code(40, 0);
        }
        // 29 times 3 and 3 (the last of the 29 is 3 and 1), a call of 2 or a 51 of 1, and a return of 1.
        int codes = 24 * (29 * 6 - 2 + 2 + 1) - 1;
        int length = 9 + 24 * 9 + codes;
        due.is("a long image", b.x.link(0), length);
        due.is("byte 5", b.x.image(5), length >> 8);
        due.is("byte 6", b.x.image(6), length & 255);
        int sum = 0;
        for (int i = 0; i < length; i++) {
            sum += i == 7 || i == 8 ? 0 : b.x.image(i);
        }
        due.yes("its SUM goes round", sum > 65536);
        due.is("SUM", b.x.image(7) * 256 + b.x.image(8), sum % 65536);
        for (int i = 0; i < length; i++) {
            b.x.feed(b.x.image(i));
        }
        due.is("check()", b.x.check(), 0);
    }

    /** As long as one can be: only 23 calls are shorter than three bytes. */
    private static void longestImage() {
        Bench b = new Bench();
        for (int c = 0; c < 10; c++) {
            b.cls(c - 1, 6, 6);
        }
        for (int m = 0; m < 24; m++) {
            b.x.method(0, NONE, 0, 0, 0, 12);
            for (int i = 0; i < 57; i++) {
                b.x.code(m == 0 && i < 23 ? 38 : 19, i + 1);
            }
            b.x.code(19, 0);
            b.x.code(23, 59);
            b.x.code(19, 0);
            for (int t = 0; t < 6; t++) {
                b.x.trap(t, 57, 58, t == 0 ? 9 : -t);
            }
        }
        due.is("the longest image", b.x.link(0), 9 + 10 * 11 + 24 * (9 + 6 * 7 + 180) - 23);
        due.is("its last byte but two", b.x.image(5637), 19);
        due.is("fields of class 9", b.x.image(9 + 9 * 11 + 1), 60);
        due.yes("it boots", b.x.boot(50, 50));
        due.is("it runs", b.x.run(100), 100);
        due.is("two deep", b.x.thread(0, 1), 2);
    }

    private static void feeding() {
        PocketMachine x = new PocketMachine();
        due.no("feed(- 1)", x.feed(-1));
        due.no("feed(256)", x.feed(256));
        due.yes("feed(0)", x.feed(0));
        due.yes("feed(255)", x.feed(255));
        due.is("two bytes", x.told(9), 2);
        for (int i = 2; i < 6000; i++) {
            due.yes("feed", x.feed(i & 255));
        }
        due.no("a 6,001st", x.feed(1));
        due.is("6,000 bytes", x.told(9), 6000);
        due.is("check()", x.check(), 1);
        due.is("they are gone", x.told(9), 0);
        due.yes("there is room again", x.feed(1));
    }

    private static int check(PocketMachine x, int... bytes) {
        for (int b : bytes) {
            x.feed(b);
        }
        int answer = x.check();
        due.is("what was collected is gone", x.told(9), 0);
        return answer;
    }

    private static void checking() {
        Bench b = new Bench();
        PocketMachine x = b.x;
        due.is("nothing", check(x), 1);
        due.is("8 bytes", check(x, 80, 77, 0, 0, 0, 0, 8, 0), 1);
        due.is("not 80", check(x, 81, 77, 0, 0, 0, 0, 9, 0, 167), 1);
        due.is("not 77", check(x, 80, 78, 0, 0, 0, 0, 9, 0, 167), 1);
        due.is("its length", check(x, 80, 77, 0, 0, 0, 1, 9, 0, 167), 2);
        due.is("its length", check(x, 80, 77, 0, 0, 0, 0, 10, 0, 167), 2);
        due.is("the SUM", check(x, 80, 77, 0, 0, 0, 0, 9, 0, 167), 3);
        due.is("the SUM's higher byte", check(x, 80, 77, 0, 0, 0, 0, 9, 1, 166), 3);
        due.is("right, but nothing was linked", check(x, 80, 77, 0, 0, 0, 0, 9, 0, 166), 4);
        b.cls(BAD, 0, 0);
        x.link(b.main(2, 40, 0));
        int[] image = new int[19];
        for (int i = 0; i < 19; i++) {
            image[i] = x.image(i);
        }
        due.is("the linked one", check(x, image), 0);
        int[] other = image.clone();
        other[14]++;
        due.is("a byte more", check(x, other), 3);
        other[8]++;
        due.is("a byte more, in its SUM too", check(x, other), 4);
        other = image.clone();
        other[14]++;
        other[18]--;
        due.is("two bytes that make up for each other", check(x, other), 4);
        x.boot(5, 50);
        x.link(b.main(3, 40, 0));
        due.is("the one linked before", check(x, image), 4);
        x.link(0);
        due.is("linked again", check(x, image), 0);
        due.is("a wrong main leaves it", x.link(9), BAD);
        due.is("so it is still", check(x, image), 0);
    }
}
