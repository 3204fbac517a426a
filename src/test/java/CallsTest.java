import java.io.ByteArrayInputStream;
import java.io.DataInputStream;
import java.io.IOException;
import java.io.InputStream;
import java.util.ArrayList;
import java.util.HashMap;
import java.util.List;
import java.util.Map;
import java.util.Set;
import java.util.TreeMap;
import java.util.TreeSet;

/** What LANGUAGE.md asks of the calls in the class, read from its compiled code: rules 4, 6, 8 and 11. */
public final class CallsTest {
    private static final Check CHECK = new Check();
    private static final int MOST_DEEP = 8;
    // what rule 4 lists, as far as it is used; a call of anything else stands out here and is looked up there first
    private static final Set<String> LIBRARY = Set.of("java/lang/Object.<init>", "java/lang/Math.min", "java/lang/Math.max",
            "java/lang/String.length", "java/lang/String.charAt", "java/lang/System.arraycopy", "java/util/Arrays.fill");

    // athrow; invokedynamic (lambdas, texts joined by +); monitorenter and -exit; checkcast, of which none is needed
    private static final Set<Integer> BANNED = Set.of(191, 186, 194, 195, 192);

    // of each method of the class and those inside it the methods that it calls
    private final Map<String, Set<String>> calls = new TreeMap<>();
    private final Map<String, Integer> depths = new HashMap<>();

    private CallsTest() {
    }

    public static void main(String[] args) throws IOException {
        CallsTest test = new CallsTest();
        List<Class<?>> all = new ArrayList<>(List.of(CoverDesk.class.getDeclaredClasses()));
        all.add(CoverDesk.class);
        for (Class<?> c : all) {
            test.read(c);
        }
        test.look();
        CHECK.close("CallsTest, " + test.calls.size() + " methods");
    }

    private void look() {
        CHECK.yes("the face's methods are among them", calls.containsKey("CoverDesk.worst(I)J"));
        for (Map.Entry<String, Set<String>> method : calls.entrySet()) {
            for (String called : method.getValue()) {
                String name = called.substring(0, called.indexOf('('));
                CHECK.yes(method.getKey() + " calls " + name, calls.containsKey(called) || LIBRARY.contains(name));
            }
            int depth = depth(method.getKey(), new ArrayList<>());
            CHECK.yes(method.getKey() + " goes " + depth + " deep", depth <= MOST_DEEP);
        }
    }

    /** How many calls stand open at most, the method itself and the library's among them. */
    private int depth(String method, List<String> open) {
        if (open.contains(method)) {
            CHECK.no("recursion: " + open + " " + method, true);
            return 0;
        }
        Integer known = depths.get(method);
        if (known != null) {
            return known;
        }
        open.add(method);
        int deepest = 0;
        for (String called : calls.getOrDefault(method, Set.of())) {
            deepest = Math.max(deepest, depth(called, open));
        }
        open.remove(open.size() - 1);
        depths.put(method, deepest + 1);
        return deepest + 1;
    }

    // ---- class files ----

    private void read(Class<?> c) throws IOException {
        try (InputStream file = c.getResourceAsStream("/" + c.getName() + ".class")) {
            new ClassFile(new DataInputStream(new ByteArrayInputStream(file.readAllBytes()))).read();
        }
    }

    private final class ClassFile {
        private final DataInputStream in;
        private Object[] pool;
        private String name;

        ClassFile(DataInputStream in) {
            this.in = in;
        }

        void read() throws IOException {
            in.skipBytes(8);
            readPool();
            in.skipBytes(2);
            name = text(in.readUnsignedShort());
            in.skipBytes(2);
            in.skipBytes(2 * in.readUnsignedShort());
            readMembers(false);
            readMembers(true);
        }

        private void readPool() throws IOException {
            pool = new Object[in.readUnsignedShort()];
            for (int i = 1; i < pool.length; i++) {
                int tag = in.readUnsignedByte();
                switch (tag) {
                    case 1: pool[i] = in.readUTF(); break;
                    case 3: case 4: in.skipBytes(4); break;
                    case 5: case 6: in.skipBytes(8); i++; break;
                    case 7: case 8: case 16: pool[i] = new int[] {in.readUnsignedShort()}; break;
                    case 9: case 10: case 11: case 12:
                        pool[i] = new int[] {in.readUnsignedShort(), in.readUnsignedShort()};
                        break;
                    case 15: in.skipBytes(3); break;
                    default: throw new IOException("tag " + tag);
                }
            }
        }

        private int[] refers(int i) {
            return (int[]) pool[i];
        }

        private String text(int i) {
            return pool[i] instanceof String s ? s : text(refers(i)[0]);
        }

        /** The method that entry i of the pool names. */
        private String method(int i) {
            int[] sort = refers(refers(i)[1]);
            return text(refers(i)[0]) + "." + text(sort[0]) + text(sort[1]);
        }

        private void readMembers(boolean methods) throws IOException {
            int count = in.readUnsignedShort();
            for (int i = 0; i < count; i++) {
                in.skipBytes(2);
                String member = name + "." + text(in.readUnsignedShort()) + text(in.readUnsignedShort());
                if (methods) {
                    calls.put(member, new TreeSet<>());
                }
                int attributes = in.readUnsignedShort();
                for (int k = 0; k < attributes; k++) {
                    String attribute = text(in.readUnsignedShort());
                    byte[] bytes = new byte[in.readInt()];
                    in.readFully(bytes);
                    if (methods && attribute.equals("Code")) {
                        readCode(member, new DataInputStream(new ByteArrayInputStream(bytes)));
                    }
                }
            }
        }

        private void readCode(String member, DataInputStream attribute) throws IOException {
            attribute.skipBytes(4);
            byte[] code = new byte[attribute.readInt()];
            attribute.readFully(code);
            CHECK.is(member + " catches", attribute.readUnsignedShort(), 0);
            for (int at = 0; at < code.length; at += length(code, at)) {
                int sort = code[at] & 255;
                CHECK.yes(member + " has instruction " + sort, !BANNED.contains(sort));
                if (sort >= 182 && sort <= 185) {
                    calls.get(member).add(method((code[at + 1] & 255) << 8 | code[at + 2] & 255));
                }
            }
        }

        private int length(byte[] code, int at) {
            int sort = code[at] & 255;
            if (sort == 170 || sort == 171) {
                int data = at + 4 - at % 4;
                int first = number(code, data + 4);
                return data - at + (sort == 170 ? 12 + 4 * (number(code, data + 8) - first + 1) : 8 + 8 * first);
            }
            if (sort == 196) {
                return (code[at + 1] & 255) == 132 ? 6 : 4;
            }
            if (sort == 185 || sort == 186 || sort == 200 || sort == 201) {
                return 5;
            }
            if (sort == 197) {
                return 4;
            }
            boolean two = sort == 16 || sort == 18 || sort >= 21 && sort <= 25 || sort >= 54 && sort <= 58 || sort == 169
                    || sort == 188;
            boolean three = sort == 17 || sort == 19 || sort == 20 || sort == 132 || sort >= 153 && sort <= 168
                    || sort >= 178 && sort <= 184 || sort == 187 || sort == 189 || sort == 192 || sort == 193 || sort == 198
                    || sort == 199;
            return two ? 2 : three ? 3 : 1;
        }

        private int number(byte[] code, int at) {
            return (code[at] & 255) << 24 | (code[at + 1] & 255) << 16 | (code[at + 2] & 255) << 8 | code[at + 3] & 255;
        }
    }
}
