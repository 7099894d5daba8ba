import java.lang.reflect.Method;
import java.util.HashMap;
import java.util.Map;
import java.util.Random;

/** Runs of calls drawn at random (always the same ones), each answer held against the model's. */
public final class ModelTest {
    private static final Map<String, Method> CLASS = methods(WashLine.class);
    private static final Map<String, Method> MODEL = methods(Model.class);
    private static final String[] ASKING = {"at", "of", "asks", "line", "feed", "end", "soap", "fault", "stopped",
        "readings", "reads", "where", "meetings", "plan", "mended", "twofold", "struck", "rows", "fits", "few",
        "compare", "drawn", "count", "status"};
    private static final String[] DOING = {"sign", "ship", "terms", "row", "law", "orders", "force", "force",
        "hang", "hang", "hang", "take", "sail", "sail", "pass", "undo", "undo", "seen", "forget", "months", "image", "back"};

    private final Random draw;
    private final WashLine x = new WashLine();
    private final Model m = new Model();
    private final int letters;
    private int calls = 0;

    private ModelTest(long seed) {
        draw = new Random(seed);
        letters = 1 + draw.nextInt(4);
    }

    private static Map<String, Method> methods(Class<?> of) {
        Map<String, Method> all = new HashMap<>();
        for (Method method : of.getDeclaredMethods()) {
            boolean plain = true;
            for (Class<?> type : method.getParameterTypes()) {
                plain &= type == int.class;
            }
            if (plain && (method.getReturnType() == int.class || method.getReturnType() == long.class)) {
                method.setAccessible(true);
                all.put(method.getName(), method);
            }
        }
        return all;
    }

    private long call(String name, int... args) {
        Object[] given = new Object[args.length];
        StringBuilder told = new StringBuilder(name).append('(');
        for (int i = 0; i < args.length; i++) {
            given[i] = args[i];
            told.append(i == 0 ? "" : ", ").append(args[i]);
        }
        calls++;
        try {
            long got = ((Number) CLASS.get(name).invoke(x, given)).longValue();
            long want = ((Number) MODEL.get(name).invoke(m, given)).longValue();
            Due.is("call " + calls + ", " + told + ") at " + m, got, want);
            return got;
        } catch (ReflectiveOperationException e) {
            e.printStackTrace(System.out);
            Due.holds("call " + calls + ", " + told + ") ends", false);
            return 0;
        }
    }

    private int some(int bound) {
        return draw.nextInt(bound);
    }

    /** Mostly a number that can be, at times one at the edges or far away. */
    private int near(int bound) {
        int kind = some(20);
        return kind == 0 ? -1 : kind == 1 ? bound : kind == 2 ? draw.nextInt() : some(bound);
    }

    private void ask(String name) {
        switch (name) {
            case "at" -> call(name, near(8), near(6));
            case "of", "where", "drawn" -> call(name, near(3), near(3));
            case "asks" -> call(name, near(3), near(8), near(3));
            case "line" -> call(name, near(12));
            case "feed" -> {
                if (some(30) == 0) {
                    call(name, draw.nextInt(), draw.nextInt(), draw.nextInt(), draw.nextInt(), draw.nextInt());
                }
            }
            case "end" -> call(name, near(60));
            case "reads" -> call(name, near(3), some(6) == 0 ? near(14) : some(7) - 1);
            case "meetings" -> call(name, some(5) - 2);
            case "plan" -> {
                int ship = near(3);
                int cell = near(25);
                call(name, ship, cell, -1);
                for (int k = 0; k < 5; k++) {
                    call(name, ship, cell, k == 4 ? near(20) : k);
                }
            }
            case "mended" -> call(name, some(14) - 2);
            case "struck" -> call(name, near(2));
            case "rows" -> call(name, near(21));
            case "few" -> call(name, near(21), near(100));
            case "compare" -> call(name, some(8) - 2, near(3));
            case "count" -> call(name, near(16));
            default -> call(name);
        }
    }

    /** At times a cloth, at times the rows of signs from a line without cloths on. */
    private void hangSome() {
        if (some(4) == 0 || m.count(0) == 0) {
            call("hang", some(20) == 0 ? near(4) : some(letters));
            return;
        }
        int off = some(3) == 0 ? 0 : m.count(2);
        for (int k = 0; k < off; k++) {
            call("take");
        }
        int signs = 1 + some(6);
        for (int k = 0; k < signs; k++) {
            int sign = some(m.count(0));
            for (int i = 2; i < 6 && m.count(2) + m.at(sign, 0) - i + 2 <= 12; i++) {
                if (m.at(sign, i) != Model.NONE) {
                    call("hang", m.at(sign, i));
                }
            }
        }
    }

    private int cloths() {
        int number = 0;
        int size = 1 + some(4);
        for (int k = 0; k < size; k++) {
            number = 10 * number + 1 + some(letters);
        }
        return some(30) == 0 ? draw.nextInt(6000) : number;
    }

    private void act(String name) {
        switch (name) {
            case "sign" -> call(name, cloths(), near(6));
            case "ship" -> {
                if (some(6) == 0 || calls < 40) {
                    call(name, near(25), near(4), near(10));
                }
            }
            case "terms" -> {
                if (some(4) == 0) {
                    call(name, near(3), some(3) == 0 ? 990 + some(12) : near(11));
                }
            }
            case "row" -> {
                tapeRow();
                call(name);
                call("soap");
            }
            case "law" -> {
                put(text(false));
                call(name);
                call("fault");
            }
            case "orders" -> {
                put(text(true));
                call(name);
                call("fault");
                call("stopped");
            }
            case "force" -> call(name, some(4) == 0 ? some(8) - 2 : some(Math.max(1, m.count(4))));
            case "hang" -> hangSome();
            case "sail" -> call(name, near(3));
            case "seen" -> call(name, near(6));
            case "months" -> call(name, near(1000001), near(61));
            case "image", "back" -> {
                if (some(3) == 0) {
                    call(name, near(2));
                }
            }
            default -> call(name);
        }
    }

    private void tapeRow() {
        if (some(10) == 0) {
            return;
        }
        StringBuilder bytes = new StringBuilder();
        int signs = 1 + some(4);
        for (int k = 0; k < signs; k++) {
            bytes.append((char) (some(15) == 0 ? some(256) : some(6)));
            int size = some(5);
            for (int i = 0; i < 4; i++) {
                int digit = i < size ? 1 + some(letters) : 0;
                bytes.append((char) (some(20) == 0 ? some(7) : digit));
            }
        }
        put(bytes.substring(0, Math.max(1, bytes.length() - (some(4) == 0 ? some(5) : 0))));
    }

    private void put(String bytes) {
        int had = m.count(6);
        for (int i = 0; i < bytes.length(); i += 20) {
            int[] five = Due.five(bytes, i);
            call("feed", five[0], five[1], five[2], five[3], five[4]);
        }
        call("end", Math.min(400, had + bytes.length()));
    }

    // ---- texts, mostly good ones

    private String text(boolean second) {
        StringBuilder text = new StringBuilder();
        int clauses = some(12) == 0 ? 11 + some(3) : 1 + some(3);
        for (int c = 0; c < clauses; c++) {
            text.append(c == 0 ? "" : some(2) == 0 ? ";" : " ; ").append(clauses > 4 ? "" : "").append(clause(second, clauses > 4));
        }
        if (some(6) == 0) {
            spoil(text);
        }
        return text.substring(0, Math.min(400, text.length()));
    }

    private void spoil(StringBuilder text) {
        int at = some(text.length());
        switch (some(4)) {
            case 0 -> text.deleteCharAt(at);
            case 1 -> text.insert(at, "abimno 019;+-*/%()[]<>=,".charAt(some(24)));
            case 2 -> text.setLength(at);
            default -> text.setCharAt(at, (char) some(256));
        }
    }

    private String clause(boolean second, boolean small) {
        int deep = small ? 0 : some(4);
        String head;
        if (second) {
            String cloth = some(4) == 0 ? sum(true, deep) : Integer.toString(some(letters));
            String ship = some(6) == 0 ? sum(true, deep) : Integer.toString(some(2));
            String[] heads = {"hang " + cloth, "hang " + cloth, "take", "sail " + ship, "pass"};
            head = heads[some(5)];
            head += some(3) == 0 ? " times " + (some(12) == 0 ? some(23) : 1 + some(4)) : "";
        } else {
            head = new String[] {"weighs " + sum(false, deep), "goes " + sum(false, deep), "bars"}[some(3)];
        }
        return head + (some(3) == 0 ? "" : " if " + test(second, small ? 0 : some(4)));
    }

    private String test(boolean second, int deep) {
        switch (deep == 0 ? 0 : some(6)) {
            case 1: return test(second, deep - 1) + " or " + test(second, deep - 1);
            case 2: return test(second, deep - 1) + " and " + test(second, deep - 1);
            case 3: return "not " + test(second, deep - 1);
            case 4: return "(" + test(second, deep - 1) + ")";
            default: return sum(second, deep / 2) + "<>=".charAt(some(3)) + sum(second, deep / 2);
        }
    }

    private String sum(boolean second, int deep) {
        switch (deep == 0 ? 0 : some(5)) {
            case 1: return sum(second, deep - 1) + "+-".charAt(some(2)) + sum(second, deep - 1);
            case 2: return sum(second, deep - 1) + "*/%".charAt(some(3)) + sum(second, deep - 1);
            case 3: return "[" + sum(second, deep - 1) + "]";
            default: return part(second);
        }
    }

    private String part(boolean second) {
        if (some(2) == 0) {
            int[] numbers = {0, 1, 2, 3, 4, 5, 7, 12, 24, 99, 999, 1000, 1001};
            return Integer.toString(some(15) == 0 ? numbers[some(13)] : numbers[some(9)]);
        }
        String[] words = second
            ? new String[] {"day", "done", "latest", "hung", "ways", "cell " + some(3), "powder " + some(3)}
            : new String[] {"ship", "sign", "long", "means", "cell", "powder", "day", "mood"};
        return words[some(words.length)];
    }

    private void run(int length) {
        int signs = 1 + some(8);
        for (int k = 0; k < signs; k++) {
            act("sign");
        }
        for (int k = 0; k < 3; k++) {
            act("ship");
        }
        act("law");
        call("force", 0);
        while (calls < length && Due.wrong() < 20) {
            if (some(2) == 0) {
                act(DOING[some(DOING.length)]);
            } else {
                ask(ASKING[some(ASKING.length)]);
            }
        }
        for (int k = 0; k < 16; k++) {
            call("count", k);
        }
    }

    /** Texts at the limits: many brackets, parts, clauses. */
    private static void limits() {
        for (int n = 1; n < 12; n++) {
            for (String open : new String[] {"[", "(", "not ("}) {
                ModelTest t = new ModelTest(n);
                String close = open.equals("[") ? "]" : ")";
                String inner = open.equals("[") ? "day" : "day<1";
                String nest = open.repeat(n) + inner + close.repeat(n);
                t.put("bars if " + nest + (open.equals("[") ? " = 0" : ""));
                t.call("law");
                t.call("fault");
            }
        }
        for (int n = 45; n < 55; n++) {
            ModelTest t = new ModelTest(n);
            t.put("goes 1" + "+1".repeat(n - 1));
            t.call("law");
            t.call("fault");
            t.put("hang cell 0" + "+cell 0".repeat(n - 1));
            t.call("orders");
            t.call("fault");
            t.put("pass times 3 if 1" + "+1".repeat(n - 2) + "=1");
            t.call("orders");
            t.call("fault");
        }
        for (int n = 10; n < 16; n++) {
            ModelTest t = new ModelTest(n);
            t.put("pass" + ";pass".repeat(n - 1));
            t.call("orders");
            t.call("fault");
            t.put("bars" + " ; bars".repeat(n - 1) + ";");
            t.call("law");
            t.call("fault");
        }
    }

    public static void main(String[] args) {
        long first = args.length > 1 ? Long.parseLong(args[1]) : 1;
        long many = args.length > 2 ? Long.parseLong(args[2]) : 400;
        Due.part("limits");
        limits();
        for (long seed = first; seed < first + many && Due.wrong() < 20; seed++) {
            Due.part("seed " + seed);
            new ModelTest(seed).run(430);
        }
        Due.finish("ModelTest");
    }
}
