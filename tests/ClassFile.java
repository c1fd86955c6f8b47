import java.io.ByteArrayInputStream;
import java.io.DataInputStream;
import java.io.IOException;
import java.io.InputStream;
import java.util.Map;
import java.util.Set;
import java.util.TreeMap;
import java.util.TreeSet;

/** What the methods of a compiled class call, which of them make objects, and which catch or throw. */
final class ClassFile {
    private static final int TABLE_SWITCH = 170;
    private static final int LOOKUP_SWITCH = 171;
    private static final int INVOKE_FIRST = 182;
    private static final int INVOKE_LAST = 186;
    private static final int NEW = 187;
    private static final int NEW_ARRAY = 188;
    private static final int NEW_ARRAY_OF_OBJECTS = 189;
    private static final int THROW = 191;
    private static final int WIDE = 196;
    private static final int NEW_ARRAYS = 197;
    private static final int IINC = 132;

    /** For each method (class, name, descriptor) those that it calls. */
    final Map<String, Set<String>> calls = new TreeMap<>();
    final Set<String> makers = new TreeSet<>();
    final Set<String> throwers = new TreeSet<>();
    private final Object[] constants;
    private final String name;

    ClassFile(Class<?> of) throws IOException {
        name = of.getName();
        String file = name.substring(name.lastIndexOf('.') + 1) + ".class";
        try (InputStream stream = of.getResourceAsStream(file); DataInputStream in = new DataInputStream(stream)) {
            in.readLong();
            constants = new Object[in.readUnsignedShort()];
            readConstants(in);
            in.skipNBytes(6);
            in.skipNBytes(2L * in.readUnsignedShort());
            for (int fields = in.readUnsignedShort(); fields > 0; fields--) {
                in.skipNBytes(6);
                skipAttributes(in);
            }
            for (int methods = in.readUnsignedShort(); methods > 0; methods--) {
                readMethod(in);
            }
        }
    }

    private void readConstants(DataInputStream in) throws IOException {
        for (int i = 1; i < constants.length; i++) {
            int tag = in.readUnsignedByte();
            switch (tag) {
                case 1:
                    constants[i] = in.readUTF();
                    break;
                case 5: case 6:
                    in.readLong();
                    i++;
                    break;
                case 7: case 8: case 16: case 19: case 20:
                    constants[i] = new int[] {in.readUnsignedShort()};
                    break;
                case 15:
                    in.skipNBytes(3);
                    break;
                case 9: case 10: case 11: case 12: case 17: case 18:
                    constants[i] = new int[] {in.readUnsignedShort(), in.readUnsignedShort()};
                    break;
                default:
                    in.readInt();
            }
        }
    }

    private void skipAttributes(DataInputStream in) throws IOException {
        for (int left = in.readUnsignedShort(); left > 0; left--) {
            in.skipNBytes(2);
            in.skipNBytes(in.readInt());
        }
    }

    private void readMethod(DataInputStream in) throws IOException {
        in.skipNBytes(2);
        String method = name + "." + constants[in.readUnsignedShort()] + constants[in.readUnsignedShort()];
        calls.put(method, new TreeSet<>());
        for (int left = in.readUnsignedShort(); left > 0; left--) {
            Object attribute = constants[in.readUnsignedShort()];
            byte[] bytes = in.readNBytes(in.readInt());
            if ("Code".equals(attribute)) {
                DataInputStream body = new DataInputStream(new ByteArrayInputStream(bytes));
                body.readInt();
                readCode(method, body.readNBytes(body.readInt()));
                if (body.readUnsignedShort() > 0) {
                    throwers.add(method);
                }
            }
        }
    }

    private void readCode(String method, byte[] code) {
        for (int at = 0; at < code.length; at += length(code, at)) {
            int op = code[at] & 255;
            if (op >= INVOKE_FIRST && op <= INVOKE_LAST) {
                calls.get(method).add(called(two(code, at + 1)));
            }
            if (op == NEW || op == NEW_ARRAY || op == NEW_ARRAY_OF_OBJECTS || op == NEW_ARRAYS) {
                makers.add(method);
            }
            if (op == THROW) {
                throwers.add(method);
            }
        }
    }

    /** The class, name and descriptor of the method that a constant means. */
    private String called(int constant) {
        int[] reference = (int[]) constants[constant];
        int[] signature = (int[]) constants[reference[1]];
        int[] owner = constants[reference[0]] instanceof int[] of ? of : new int[] {0};
        return String.valueOf(constants[owner[0]]).replace('/', '.') + "." + constants[signature[0]]
            + constants[signature[1]];
    }

    private static int two(byte[] code, int at) {
        return (code[at] & 255) << 8 | code[at + 1] & 255;
    }

    private static int four(byte[] code, int at) {
        return two(code, at) << 16 | two(code, at + 2);
    }

    private static int length(byte[] code, int at) {
        int op = code[at] & 255;
        int aligned = at + 4 - at % 4;
        switch (op) {
            case TABLE_SWITCH:
                return aligned + 16 + 4 * (four(code, aligned + 8) - four(code, aligned + 4)) - at;
            case LOOKUP_SWITCH:
                return aligned + 8 + 8 * four(code, aligned + 4) - at;
            case WIDE:
                return (code[at + 1] & 255) == IINC ? 6 : 4;
            case 17: case 19: case 20: case IINC: case NEW: case NEW_ARRAY_OF_OBJECTS: case 192: case 193: case 198:
            case 199:
                return 3;
            case 16: case 18: case 169: case NEW_ARRAY:
                return 2;
            case 185: case 186: case 200: case 201:
                return 5;
            case NEW_ARRAYS:
                return 4;
            default:
                return op >= 21 && op <= 25 || op >= 54 && op <= 58 ? 2
                    : op >= 153 && op <= 168 || op >= 178 && op <= 184 ? 3 : 1;
        }
    }
}
