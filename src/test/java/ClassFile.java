import java.io.ByteArrayInputStream;
import java.io.DataInputStream;
import java.io.IOException;
import java.util.ArrayList;
import java.util.List;
import java.util.Map;
import java.util.TreeMap;
import java.util.TreeSet;

/** As much of a compiled class as the rules ask about: which instructions its methods have, and what they call. */
final class ClassFile {
    /** A method of the class: its instructions by number, whom it calls, and from which line to which it goes. */
    static final class Body {
        final List<Integer> ops = new ArrayList<>();
        final TreeSet<String> calls = new TreeSet<>();
        final List<Integer> lines = new ArrayList<>();
        int handlers;
    }

    /** How long each instruction of the Java machine is; 0 where that depends on more than its number. */
    private static final String LENGTHS =
            "1111111111111111" + "2323322222111111" + "1111111111111111" + "1111112222211111"
            + "1111111111111111" + "1111111111111111" + "1111111111111111" + "1111111111111111"
            + "1111311111111111" + "1111111113333333" + "3333333332001111" + "1133333335532311" + "3311043355";

    final Map<String, Body> bodies = new TreeMap<>();
    private final Object[] pool;

    ClassFile(byte[] bytes) throws IOException {
        DataInputStream in = new DataInputStream(new ByteArrayInputStream(bytes));
        in.skipBytes(8);
        pool = readPool(in);
        in.skipBytes(2);
        String name = text(at(in.readUnsignedShort(), 0));
        in.skipBytes(2);
        in.skipBytes(2 * in.readUnsignedShort());
        readMembers(in, name, false);
        readMembers(in, name, true);
    }

    private static Object[] readPool(DataInputStream in) throws IOException {
        Object[] pool = new Object[in.readUnsignedShort()];
        for (int i = 1; i < pool.length; i++) {
            int tag = in.readUnsignedByte();
            switch (tag) {
                case 1: pool[i] = in.readUTF(); break;
                case 3: case 4: in.readInt(); break;
                case 5: case 6: in.readLong(); i++; break;
                case 7: case 8: case 16: case 19: case 20: pool[i] = new int[] {in.readUnsignedShort()}; break;
                case 15: in.readUnsignedByte(); in.readUnsignedShort(); break;
                default: pool[i] = new int[] {in.readUnsignedShort(), in.readUnsignedShort()}; break;
            }
        }
        return pool;
    }

    /** A number that an entry of the pool holds. */
    private int at(int entry, int which) {
        return ((int[]) pool[entry])[which];
    }

    private String text(int entry) {
        return (String) pool[entry];
    }

    private String called(int entry) {
        int what = at(entry, 1);
        return text(at(at(entry, 0), 0)) + "." + text(at(what, 0)) + text(at(what, 1));
    }

    private void readMembers(DataInputStream in, String name, boolean methods) throws IOException {
        int count = in.readUnsignedShort();
        for (int i = 0; i < count; i++) {
            in.skipBytes(2);
            String member = name + "." + text(in.readUnsignedShort()) + text(in.readUnsignedShort());
            Body body = new Body();
            readAttributes(in, body);
            if (methods) {
                bodies.put(member, body);
            }
        }
    }

    private void readAttributes(DataInputStream in, Body body) throws IOException {
        int count = in.readUnsignedShort();
        for (int i = 0; i < count; i++) {
            String name = text(in.readUnsignedShort());
            byte[] bytes = new byte[in.readInt()];
            in.readFully(bytes);
            DataInputStream inner = new DataInputStream(new ByteArrayInputStream(bytes));
            if (name.equals("Code")) {
                readCode(inner, body);
            } else if (name.equals("LineNumberTable")) {
                int lines = inner.readUnsignedShort();
                for (int n = 0; n < lines; n++) {
                    inner.skipBytes(2);
                    body.lines.add(inner.readUnsignedShort());
                }
            }
        }
    }

    private void readCode(DataInputStream in, Body body) throws IOException {
        in.skipBytes(4);
        byte[] code = new byte[in.readInt()];
        in.readFully(code);
        for (int at = 0; at < code.length; at += length(code, at)) {
            int op = code[at] & 255;
            body.ops.add(op);
            if (op >= 182 && op <= 186) {
                body.calls.add(op == 186 ? "invokedynamic" : called(two(code, at + 1)));
            }
        }
        body.handlers = in.readUnsignedShort();
        in.skipBytes(8 * body.handlers);
        readAttributes(in, body);
    }

    private static int length(byte[] code, int at) {
        int op = code[at] & 255;
        int told = LENGTHS.charAt(op) - '0';
        int even = (at + 4) / 4 * 4;
        switch (op) {
            case 170: return even + 12 + 4 * (four(code, even + 8) - four(code, even + 4) + 1) - at;
            case 171: return even + 8 + 8 * four(code, even + 4) - at;
            case 196: return code[at + 1] == (byte) 132 ? 6 : 4;
            default: return told;
        }
    }

    private static int two(byte[] code, int at) {
        return (code[at] & 255) << 8 | code[at + 1] & 255;
    }

    private static int four(byte[] code, int at) {
        return two(code, at) << 16 | two(code, at + 2);
    }
}
