import java.io.IOException;
import java.lang.management.ManagementFactory;
import java.lang.reflect.Constructor;
import java.lang.reflect.Field;
import java.lang.reflect.Method;
import java.lang.reflect.Modifier;
import java.nio.file.Files;
import java.nio.file.Path;
import java.util.ArrayList;
import java.util.List;
import java.util.Set;
import java.util.TreeSet;
import java.util.regex.Matcher;
import java.util.regex.Pattern;

/** The face is the document's, the source keeps to ../shared/LANGUAGE.md, and calls make few objects. */
public final class FaceTest {
    private FaceTest() { }

    private static String told(Class<?> returns, String name, Class<?>[] types) {
        StringBuilder text = new StringBuilder(returns == null ? "" : returns.getName() + " ").append(name).append('(');
        for (int i = 0; i < types.length; i++) {
            text.append(i == 0 ? "" : ",").append(types[i].getName());
        }
        return text.append(')').toString();
    }

    private static Set<String> documented(String doc) {
        Set<String> face = new TreeSet<>();
        Matcher code = Pattern.compile("```java\n(.*?)```", Pattern.DOTALL).matcher(doc);
        Due.holds("the document tells a face", code.find());
        Matcher line = Pattern.compile("public ((?:int|long) )?(\\w+)\\((.*?)\\);").matcher(code.group(1));
        while (line.find()) {
            String types = line.group(3).replaceAll("(\\w+) \\w+", "$1").replace(" ", "");
            face.add((line.group(1) == null ? "" : line.group(1)) + line.group(2) + "(" + types + ")");
        }
        return face;
    }

    private static void face(String doc) throws ReflectiveOperationException {
        Due.part("rule 1");
        Set<String> due = documented(doc);
        Set<String> got = new TreeSet<>();
        for (Constructor<?> c : WashLine.class.getDeclaredConstructors()) {
            got.add(told(null, "WashLine", c.getParameterTypes()));
        }
        Set<String> names = new TreeSet<>();
        for (Method m : WashLine.class.getDeclaredMethods()) {
            if (!Modifier.isPrivate(m.getModifiers())) {
                got.add(told(m.getReturnType(), m.getName(), m.getParameterTypes()));
                names.add(m.getName());
            }
        }
        Due.is("how many are documented", due.size(), 42);
        for (String one : due) {
            Due.holds("the face has " + one, got.contains(one));
        }
        for (String one : got) {
            Due.holds("the document has " + one, due.contains(one));
        }
        for (Field f : WashLine.class.getDeclaredFields()) {
            boolean none = f.getName().equals("NONE");
            Due.holds(f + " is private", none || Modifier.isPrivate(f.getModifiers()));
        }
        Due.is("NONE", WashLine.class.getField("NONE").getInt(null), -1);
        Due.holds("the class is final", Modifier.isFinal(WashLine.class.getModifiers()));
        classes(names);
    }

    private static void classes(Set<String> names) {
        List<Class<?>> all = new ArrayList<>(List.of(WashLine.class.getDeclaredClasses()));
        Due.holds("at most some twelve classes", all.size() < 12);
        all.add(WashLine.class);
        for (Class<?> c : all) {
            boolean outer = c == WashLine.class;
            Due.holds(c + " is static", outer || Modifier.isStatic(c.getModifiers()) && Modifier.isFinal(c.getModifiers()));
            for (Method m : c.getDeclaredMethods()) {
                boolean face = outer && Modifier.isPublic(m.getModifiers());
                Due.holds(m + " bears a name of its own", face || !names.contains(m.getName()));
                Due.holds(m + " has at most seven parameters", m.getParameterCount() <= 7);
            }
            int fields = 0;
            for (Field f : c.getDeclaredFields()) {
                fields += Modifier.isStatic(f.getModifiers()) ? 0 : 1;
                boolean fixed = !Modifier.isStatic(f.getModifiers()) || Modifier.isFinal(f.getModifiers());
                Due.holds(f + " is no static state", fixed);
            }
            Due.holds(c + " has at most some twenty fields", fields <= 20);
        }
    }

    private static void source(String source) {
        Due.part("the source");
        String bare = source.replaceAll("(?s)/\\*.*?\\*/", " ").replaceAll("//[^\n]*", " ")
            .replaceAll("\"[^\"\n]*\"", "\"\"").replaceAll("'[^'\n]*'", "' '");
        String[] wrong = {"throw", "throws", "try", "catch", "synchronized", "assert", "double", "float", "enum",
            "interface", "extends", "protected", "equals", "hashCode", "toString", "goto", "yield", "var", "package"};
        for (String word : wrong) {
            Due.holds("no " + word, !Pattern.compile("\\b" + word + "\\b").matcher(bare).find());
        }
        for (String sign : new String[] {"->", "::", "@", "static {", "[][]", "instanceof", "Exact(", "this)"}) {
            Due.holds("no " + sign, !bare.contains(sign));
        }
        Matcher imports = Pattern.compile("import ([\\w.]+);").matcher(bare);
        while (imports.find()) {
            Due.is(imports.group(1) + " may be imported", imports.group(1).equals("java.util.Arrays") ? 1 : 0, 1);
        }
        Matcher calls = Pattern.compile("\\b(Math|Integer|Long|System|Arrays|String)\\.(\\w+)").matcher(bare);
        Set<String> may = Set.of("Math.min", "Math.max", "Integer.bitCount", "System.arraycopy", "Arrays.fill",
            "Arrays.copyOf");
        while (calls.find()) {
            Due.holds(calls.group() + " may be used", may.contains(calls.group()));
        }
        for (char c : source.toCharArray()) {
            Due.holds("signs of the source are 1 to 127", c > 0 && c < 128);
        }
        methods(source.split("\n"));
    }

    private static void methods(String[] lines) {
        for (int i = 0; i < lines.length; i++) {
            Matcher head = Pattern.compile("^((?: {4}){1,2})\\w.*\\) \\{$").matcher(lines[i]);
            if (head.find()) {
                int to = i;
                while (!lines[to].equals(head.group(1) + "}")) {
                    to++;
                }
                Due.holds("a short method: " + lines[i], to - i < 60);
            }
        }
    }

    /** The dearest state: eight signs that can be read in many ways, three ships, a long law, a long line. */
    private static WashLine dear() {
        WashLine x = new WashLine();
        int[] rows = {1, 11, 111, 1111, 2, 22, 12, 21};
        for (int k = 0; k < rows.length; k++) {
            x.sign(rows[k], k % 6);
        }
        for (int k = 0; k < 3; k++) {
            x.ship(12, k, 9);
        }
        Due.law(x, "weighs 3;weighs " + "1+".repeat(30) + "long;goes 1+cell%3;bars if means=0 and powder%2=1 and cell>3 or day>900");
        x.force(0);
        for (int k = 0; k < 12; k++) {
            x.hang(0);
        }
        return x;
    }

    private static long call(WashLine x, int kind, int k) {
        switch (kind) {
            case 0: return x.plan(k % 3, k % 25, k % 5 - 1);
            case 1: return x.months(k, 60);
            case 2: return x.struck(k % 2);
            case 3: return x.meetings(-1);
            case 4: return x.few(20, 99);
            case 5: return x.twofold() + x.rows(20) + x.fits() + x.mended(3) + x.compare(0, 1);
            case 6: return x.image(k % 2) + x.back(k % 2);
            case 7: return x.sail(k % 3) + x.take() + x.hang(0) + x.undo() + x.undo() + x.undo();
            default:
                x.image(0);
                long told = Due.law(x, "goes 1" + "+1".repeat(49) + ";" + "bars;".repeat(10) + "bars") + Due.orders(x, "pass times 20");
                x.back(0);
                return told;
        }
    }

    private static void room() {
        Due.part("the room");
        com.sun.management.ThreadMXBean threads = (com.sun.management.ThreadMXBean) ManagementFactory.getThreadMXBean();
        long id = Thread.currentThread().getId();
        WashLine[] made = new WashLine[10];
        dear();
        long before = threads.getThreadAllocatedBytes(id);
        for (int k = 0; k < made.length; k++) {
            made[k] = new WashLine();
        }
        long each = (threads.getThreadAllocatedBytes(id) - before) / made.length;
        Due.holds("an object has some " + each + " bytes", each < 40000);
        long sum = 0;
        for (int kind = 0; kind < 9; kind++) {
            WashLine x = dear();
            sum += call(x, kind, 1);
            before = threads.getThreadAllocatedBytes(id);
            for (int k = 0; k < 512; k++) {
                sum += call(x, kind, k);
            }
            long bytes = threads.getThreadAllocatedBytes(id) - before;
            // Laws are made anew, and the helper that puts texts on the tape makes objects of its own.
            Due.holds("512 calls of kind " + kind + " made " + bytes + " bytes", bytes < (kind < 8 ? 10000 : 4000000));
        }
        Due.holds("the answers were used", sum != 0);
    }

    /** Whatever the numbers, no call may throw. */
    private static void anyNumbers() throws ReflectiveOperationException {
        Due.part("any numbers");
        int[] numbers = {Integer.MIN_VALUE, -1000, -2, -1, 0, 1, 2, 3, 7, 12, 24, 25, 60, 400, 999, 1000001, Integer.MAX_VALUE};
        for (int state = 0; state < 2; state++) {
            for (Method m : WashLine.class.getDeclaredMethods()) {
                if (Modifier.isPublic(m.getModifiers())) {
                    WashLine x = state == 0 ? new WashLine() : dear();
                    Object[] given = new Object[m.getParameterCount()];
                    for (int n = 0; n < 500; n++) {
                        int rest = n;
                        for (int k = 0; k < given.length; k++) {
                            given[k] = numbers[(rest + k * n) % numbers.length];
                            rest /= numbers.length;
                        }
                        m.invoke(x, given);
                    }
                }
            }
        }
        Due.holds("none threw", true);
    }

    public static void main(String[] args) throws IOException, ReflectiveOperationException {
        Path root = Path.of(args[0]);
        face(Files.readString(root.resolve("../shared/DOC.md")));
        source(Files.readString(root.resolve("src/main/java/WashLine.java")));
        room();
        anyNumbers();
        Due.finish("FaceTest");
    }
}
