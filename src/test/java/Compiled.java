import java.io.DataInputStream;
import java.io.IOException;
import java.io.InputStream;
import java.nio.ByteBuffer;
import java.util.ArrayList;
import java.util.List;

/** A compiled class: of each method the instructions, the methods that it calls and how many catches it has. */
final class Compiled {
    /** Its name and its calls are written Class.name. */
    record Body(String name, List<Integer> opcodes, List<String> calls, int catches) {
    }

    private static final int INVOKE_FIRST = 182;
    private static final int INVOKE_LAST = 186;
    private static final int TABLE_SWITCH = 170;
    private static final int LOOKUP_SWITCH = 171;
    private static final int WIDE = 196;
    private static final int IINC = 132;
    /** How many bytes stand behind each opcode, 0 to 201; the three that are counted otherwise are 0 here. */
    private static final String OPERANDS =
            "00000000000000001212211111000000000000000000000000000011111000000000000000000000"
            + "00000000000000000000000000000000000000000000000000002000000000000000000002222222"
            + "222222222100000000222222244212002200032244";

    final String name;
    final List<Body> bodies = new ArrayList<>();
    private final Object[] pool;

    static Compiled of(Class<?> type) throws IOException {
        try (InputStream bytes = type.getResourceAsStream("/" + type.getName() + ".class")) {
            return new Compiled(type.getName(), new DataInputStream(bytes));
        }
    }

    private Compiled(String name, DataInputStream in) throws IOException {
        this.name = name;
        in.readLong();
        pool = new Object[in.readUnsignedShort()];
        readPool(in);
        in.skipNBytes(6);
        in.skipNBytes(2L * in.readUnsignedShort());
        for (int left = in.readUnsignedShort(); left > 0; left--) {
            in.skipNBytes(6);
            skipAttributes(in);
        }
        for (int left = in.readUnsignedShort(); left > 0; left--) {
            in.skipNBytes(2);
            readMethod(in, name + "." + pool[in.readUnsignedShort()]);
        }
    }

    /** Texts are kept as they are, all that points elsewhere as a row of indices, the rest not at all. */
    private void readPool(DataInputStream in) throws IOException {
        for (int i = 1; i < pool.length; i++) {
            int tag = in.readUnsignedByte();
            switch (tag) {
                case 1 -> pool[i] = in.readUTF();
                case 7, 8, 16, 19, 20 -> pool[i] = new int[] {in.readUnsignedShort()};
                case 9, 10, 11, 12, 17, 18 -> pool[i] = new int[] {in.readUnsignedShort(), in.readUnsignedShort()};
                case 15 -> in.skipNBytes(3);
                case 5, 6 -> {
                    in.skipNBytes(8);
                    i++;
                }
                default -> in.skipNBytes(4);
            }
        }
    }

    private static void skipAttributes(DataInputStream in) throws IOException {
        for (int left = in.readUnsignedShort(); left > 0; left--) {
            in.skipNBytes(2);
            in.skipNBytes(in.readInt());
        }
    }

    private void readMethod(DataInputStream in, String method) throws IOException {
        in.skipNBytes(2);
        for (int left = in.readUnsignedShort(); left > 0; left--) {
            boolean isCode = "Code".equals(pool[in.readUnsignedShort()]);
            int length = in.readInt();
            if (!isCode) {
                in.skipNBytes(length);
                continue;
            }
            in.skipNBytes(4);
            byte[] code = in.readNBytes(in.readInt());
            int catches = in.readUnsignedShort();
            in.skipNBytes(8L * catches);
            skipAttributes(in);
            bodies.add(bodyOf(method, ByteBuffer.wrap(code), catches));
        }
    }

    private Body bodyOf(String method, ByteBuffer code, int catches) {
        Body body = new Body(method, new ArrayList<>(), new ArrayList<>(), catches);
        for (int at = 0; at < code.limit(); at += lengthAt(code, at)) {
            int opcode = code.get(at) & 255;
            body.opcodes.add(opcode);
            if (opcode >= INVOKE_FIRST && opcode <= INVOKE_LAST) {
                body.calls.add(memberAt(code.getShort(at + 1) & 65535));
            }
        }
        return body;
    }

    private String memberAt(int index) {
        int[] member = (int[]) pool[index];
        int[] type = (int[]) pool[member[0]];
        int[] nameAndType = (int[]) pool[member[1]];
        return pool[type[0]] + "." + pool[nameAndType[0]];
    }

    private static int lengthAt(ByteBuffer code, int at) {
        int opcode = code.get(at) & 255;
        int aligned = (at + 4) / 4 * 4;
        switch (opcode) {
            case TABLE_SWITCH:
                return aligned + 12 + 4 * (code.getInt(aligned + 8) - code.getInt(aligned + 4) + 1) - at;
            case LOOKUP_SWITCH:
                return aligned + 8 + 8 * code.getInt(aligned + 4) - at;
            case WIDE:
                return (code.get(at + 1) & 255) == IINC ? 6 : 4;
            default:
                return 1 + OPERANDS.charAt(opcode) - '0';
        }
    }
}
