import java.lang.management.ManagementFactory;
import java.lang.reflect.Field;
import java.lang.reflect.Method;
import java.lang.reflect.Modifier;
import java.nio.charset.StandardCharsets;
import java.nio.file.Files;
import java.nio.file.Path;
import java.util.ArrayList;
import java.util.List;
import java.util.Set;
import java.util.TreeSet;
import java.util.regex.Matcher;
import java.util.regex.Pattern;

/** What LANGUAGE.md asks of the class, as far as a test can see it. Arguments: CoverDesk.java and DOC.md. */
public final class RulesTest {
    private static final Check CHECK = new Check();

    private RulesTest() {
    }

    public static void main(String[] args) throws Exception {
        String source = Files.readString(Path.of(args[0]), StandardCharsets.UTF_8);
        String doc = Files.readString(Path.of(args[1]), StandardCharsets.UTF_8);
        Set<String> face = faceOf(doc);
        face(face);
        classes(face);
        words(source);
        lengths(source);
        makesNothing();
        CHECK.close("RulesTest");
    }

    private static Set<String> faceOf(String doc) {
        String block = doc.substring(doc.indexOf("```java"), doc.indexOf("}\n```"));
        Set<String> face = new TreeSet<>();
        Matcher m = Pattern.compile("public (\\w+) (\\w+)\\(([^)]*)\\);").matcher(block);
        while (m.find()) {
            String types = m.group(3).replaceAll(" \\w+(,|$)", "$1").replace(" ", "");
            face.add(m.group(1) + " " + m.group(2) + "(" + types + ")");
        }
        return face;
    }

    private static void face(Set<String> due) {
        Set<String> got = new TreeSet<>();
        for (Method m : CoverDesk.class.getDeclaredMethods()) {
            if (!Modifier.isPrivate(m.getModifiers())) {
                List<String> types = new ArrayList<>();
                for (Class<?> type : m.getParameterTypes()) {
                    types.add(type.getName());
                }
                got.add(m.getReturnType().getName() + " " + m.getName() + "(" + String.join(",", types) + ")");
            }
        }
        CHECK.is("33 promises less the constructor", due.size(), 32);
        CHECK.yes("the face is " + got + ", due is " + due, got.equals(due));
        CHECK.is("one constructor", CoverDesk.class.getDeclaredConstructors().length, 1);
        for (Field f : CoverDesk.class.getDeclaredFields()) {
            CHECK.yes("field " + f.getName(), Modifier.isPrivate(f.getModifiers()) || f.getName().equals("NONE"));
        }
        CHECK.is("NONE", CoverDesk.NONE, -1);
        CHECK.yes("final", Modifier.isFinal(CoverDesk.class.getModifiers()));
    }

    private static void classes(Set<String> face) {
        Set<String> names = new TreeSet<>();
        for (String method : face) {
            names.add(method.substring(method.indexOf(' ') + 1, method.indexOf('(')));
        }
        List<Class<?>> all = new ArrayList<>(List.of(CoverDesk.class.getDeclaredClasses()));
        CHECK.yes("some twelve classes", all.size() <= 11);
        for (Class<?> c : all) {
            CHECK.yes(c + " is static", Modifier.isStatic(c.getModifiers()));
        }
        all.add(CoverDesk.class);
        for (Class<?> c : all) {
            int fields = 0;
            for (Field f : c.getDeclaredFields()) {
                boolean isStatic = Modifier.isStatic(f.getModifiers());
                CHECK.yes(f + " is final if static", !isStatic || Modifier.isFinal(f.getModifiers()));
                fields += isStatic ? 0 : 1;
            }
            CHECK.yes(c + " has some twenty fields", fields <= 20);
            for (Method m : c.getDeclaredMethods()) {
                CHECK.yes(m + " takes at most seven", m.getParameterCount() <= 7);
                boolean isFace = c == CoverDesk.class && Modifier.isPublic(m.getModifiers());
                CHECK.yes(m + " has a name of its own", isFace || !names.contains(m.getName()));
                CHECK.no(m + " is made by the compiler", m.isSynthetic());
            }
        }
    }

    private static void words(String source) {
        String code = source.replaceAll("(?s)/\\*.*?\\*/", "").replaceAll("//[^\n]*", "").replaceAll("\"[^\"]*\"", "\"\"");
        String[] banned = {"throw", "throws", "try", "catch", "finally", "assert", "synchronized", "package", "instanceof",
            "Object", "System\\.(?!arraycopy)", "Exception", "Thread", "Random", "->", "::", "\"\"\\s*\\+", "\\+\\s*\"\"",
            "float", "double", "String\\.format", "\\w+Exact"};
        for (String word : banned) {
            boolean isWord = Character.isLetter(word.charAt(0)) && Character.isLetter(word.charAt(word.length() - 1));
            Matcher m = Pattern.compile(isWord ? "\\b" + word + "\\b" : word).matcher(code);
            CHECK.no("stands in the code: " + word, m.find());
        }
        Matcher m = Pattern.compile("import ([^;]*);").matcher(code);
        while (m.find()) {
            CHECK.yes("import of " + m.group(1), m.group(1).equals("java.util.Arrays"));
        }
        CHECK.yes("signs 1 to 127", source.chars().allMatch(c -> c > 0 && c < 128));
    }

    private static void lengths(String source) {
        String[] lines = source.split("\n");
        int start = -1;
        for (int i = 0; i < lines.length; i++) {
            CHECK.yes("line " + (i + 1) + " is too long", lines[i].length() <= 130);
            if (lines[i].matches("( {4}| {8})\\w[^=;]*\\).* \\{")) {
                start = i;
            } else if (start >= 0 && (lines[i].equals("    }") || lines[i].equals("        }"))) {
                CHECK.yes("method at line " + (start + 1) + " is short", i - start <= 60);
                start = -1;
            }
        }
    }

    private static long made() {
        return ((com.sun.management.ThreadMXBean) ManagementFactory.getThreadMXBean()).getCurrentThreadAllocatedBytes();
    }

    /** A run's room is small: all rows are made by the constructor, no call makes any. */
    private static void makesNothing() {
        CoverDesk d = Check.desk("limit 9; grace 2; person p; person q; bank b; bank c; bank e; single s at b of p 30;"
                + "trust t at b of p q for x y 30; joint j at c of p q 9; loan p at b 4;");
        calls(d);
        long before = made();
        long again = made();
        calls(d);
        long after = made();
        CHECK.is("bytes made by calls", after - again - (again - before), 0);
        before = made();
        CoverDesk one = new CoverDesk();
        after = made();
        CHECK.yes("bytes made by one object: " + (after - before) + one.look(0), after - before < 60000);
    }

    /** Each method, with some two hundred calls, since an object is used for 512 at most. */
    private static void calls(CoverDesk d) {
        d.feed(0x6d6f6e74, 0x6873313b, 0x6d657267, 0x65206220, 0x696e746f);
        d.feed(0x20633b20, 0x20202020, 0x20202020, 0x20202020, 0x20202020);
        d.day();
        d.put(0, 1);
        d.take(0, 1);
        d.merge(0, 1);
        d.months(1);
        d.pay(0, 1);
        d.account(0, 8);
        d.account(0, 9);
        for (int i = -1; i < 2; i++) {
            for (int what = 0; what < 5; what++) {
                d.account(i, what);
                d.owner(0, i, what);
                d.bank(i, what);
                d.held(i, what);
                d.group(0, i, 0, 0, what);
                d.of(i, 0, what);
                d.came(i, 0, what);
                d.loan(i, what);
                d.moves(i, what);
                d.move(i, 0, what);
                d.asKind(i, what);
            }
            d.total(i);
            d.bestKind(i);
            d.change(i);
            d.rank(i);
            d.heirMore(i);
            d.worst(i);
            d.look(i);
            d.warns(i);
            d.fault(i);
        }
        d.fail(1, 5);
        d.undo();
        d.named(0);
        d.end(0);
        d.day();
    }
}
