import java.util.ArrayDeque;
import java.util.ArrayList;
import java.util.Arrays;
import java.util.Deque;
import java.util.HashMap;
import java.util.HashSet;
import java.util.List;
import java.util.Map;
import java.util.PriorityQueue;
import java.util.Set;
import java.util.TreeMap;

/**
 * The document a second time, written as plainly as the Java library allows and in other ways than
 * the class: rows are lists, texts are trees, all readings are listed. ModelTest holds the class
 * against it.
 */
final class Model {
    static final int NONE = -1;

    static final class Broken extends RuntimeException { }

    static final class Fault extends RuntimeException {
        final int place;

        Fault(int place) {
            this.place = place;
        }
    }

    static final class Refusal extends RuntimeException {
        final int by;

        Refusal(int by) {
            this.by = by;
        }
    }

    interface Words {
        long of(String word, int s);
    }

    interface Sum {
        long value(Words words);
    }

    interface Test {
        boolean so(Words words);
    }

    record Clause(String kind, Sum sum, int times, Test test) { }

    record Sign(String row, int means) { }

    record Ship(int cell, int faces, int powder) { }

    /** All that is kept in an image; never changed, only replaced. */
    static final class State {
        List<Sign> signs = new ArrayList<>();
        List<Ship> ships = new ArrayList<>();
        String line = "";
        List<Integer> done = new ArrayList<>();
        List<List<Clause>> laws = new ArrayList<>();
        int force = NONE;
        int[] terms = {0, 5, 0};

        State copy() {
            State s = new State();
            s.signs = new ArrayList<>(signs);
            s.ships = new ArrayList<>(ships);
            s.line = line;
            s.done = new ArrayList<>(done);
            s.laws = new ArrayList<>(laws);
            s.force = force;
            s.terms = terms.clone();
            return s;
        }

        List<Clause> inForce() {
            return force == NONE ? List.of() : laws.get(force);
        }
    }

    record Act(int kind, String line, List<Ship> ships, int day) { }

    State now = new State();
    State[] images = new State[2];
    Deque<Act> acts = new ArrayDeque<>();
    StringBuilder tape = new StringBuilder();
    int faultPlace = NONE;
    int soapTimes = 0;
    int stoppedAt = NONE;
    List<Ship> latestMonths = new ArrayList<>();
    Map<Integer, Integer> refusals = new TreeMap<>();
    int status = 0;

    // ---- the two languages

    static final class Parser {
        static final Set<String> FIRST = Set.of("ship", "sign", "long", "means", "cell", "powder", "day", "mood");
        static final Set<String> SECOND = Set.of("day", "done", "latest", "hung", "ways", "cell", "powder");
        final List<String> tokens = new ArrayList<>();
        final List<Integer> places = new ArrayList<>();
        final boolean second;
        int at = 0;
        int parts = 0;

        Parser(String text, boolean second) {
            this.second = second;
            int i = 0;
            while (i < text.length()) {
                char c = text.charAt(i);
                if (c == ' ') {
                    i++;
                    continue;
                }
                int from = i++;
                while (kind(c) > 0 && i < text.length() && kind(text.charAt(i)) == kind(c)) {
                    i++;
                }
                tokens.add(text.substring(from, i));
                places.add(from);
            }
            tokens.add("");
            places.add(text.length());
        }

        static int kind(char c) {
            return c >= 'a' && c <= 'z' ? 1 : c >= '0' && c <= '9' ? 2 : 0;
        }

        String token() {
            return tokens.get(at);
        }

        boolean eat(String t) {
            boolean same = token().equals(t);
            at += same ? 1 : 0;
            return same;
        }

        Fault fault() {
            return new Fault(places.get(at));
        }

        void need(String t) {
            if (!eat(t)) {
                throw fault();
            }
        }

        int number(int least, int most) {
            String t = token();
            if (t.isEmpty() || kind(t.charAt(0)) != 2) {
                throw fault();
            }
            String bare = t.replaceFirst("^0+(?=.)", "");
            if (bare.length() > 4 || Integer.parseInt(bare) < least || Integer.parseInt(bare) > most) {
                throw fault();
            }
            at++;
            return Integer.parseInt(bare);
        }

        List<Clause> text() {
            List<Clause> clauses = new ArrayList<>();
            do {
                if (clauses.size() == 12) {
                    throw fault();
                }
                clauses.add(clause());
            } while (eat(";"));
            if (at != tokens.size() - 1) {
                throw fault();
            }
            return clauses;
        }

        Clause clause() {
            String kind = token();
            Set<String> kinds = second ? Set.of("hang", "take", "sail", "pass") : Set.of("weighs", "goes", "bars");
            if (!kinds.contains(kind)) {
                throw fault();
            }
            at++;
            Sum sum = Set.of("weighs", "goes", "hang", "sail").contains(kind) ? sum(0) : null;
            int times = second && eat("times") ? number(1, 20) : 1;
            Test test = eat("if") ? test(0) : null;
            return new Clause(kind, sum, times, test);
        }

        Test test(int deep) {
            List<Test> all = new ArrayList<>();
            do {
                all.add(both(deep));
            } while (eat("or"));
            return w -> {
                for (Test t : all) {
                    if (t.so(w)) {
                        return true;
                    }
                }
                return false;
            };
        }

        Test both(int deep) {
            List<Test> all = new ArrayList<>();
            do {
                all.add(plain(deep));
            } while (eat("and"));
            return w -> {
                for (Test t : all) {
                    if (!t.so(w)) {
                        return false;
                    }
                }
                return true;
            };
        }

        Test plain(int deep) {
            if (eat("not")) {
                Test t = plain(deep);
                return w -> !t.so(w);
            }
            if (token().equals("(")) {
                open(deep);
                Test t = test(deep + 1);
                need(")");
                return t;
            }
            Sum left = sum(deep);
            String sign = token();
            if (!Set.of("<", ">", "=").contains(sign)) {
                throw fault();
            }
            at++;
            Sum right = sum(deep);
            return w -> {
                long a = left.value(w);
                long b = right.value(w);
                return sign.equals("<") ? a < b : sign.equals(">") ? a > b : a == b;
            };
        }

        void open(int deep) {
            if (deep == 8) {
                throw fault();
            }
            at++;
        }

        Sum sum(int deep) {
            Sum s = term(deep);
            while (Set.of("+", "-").contains(token())) {
                s = joined(tokens.get(at++), s, term(deep));
            }
            return s;
        }

        Sum term(int deep) {
            Sum s = part(deep);
            while (Set.of("*", "/", "%").contains(token())) {
                s = joined(tokens.get(at++), s, part(deep));
            }
            return s;
        }

        Sum joined(String sign, Sum left, Sum right) {
            return w -> {
                long a = left.value(w);
                long b = right.value(w);
                if (b == 0 && (sign.equals("/") || sign.equals("%"))) {
                    throw new Broken();
                }
                long c = switch (sign) {
                    case "+" -> a + b;
                    case "-" -> a - b;
                    case "*" -> a * b;
                    case "/" -> a / b;
                    default -> a % b;
                };
                if (Math.abs(c) > 1000000000) {
                    throw new Broken();
                }
                return c;
            };
        }

        Sum part(int deep) {
            String t = token();
            if (t.equals("[")) {
                open(deep);
                Sum s = sum(deep + 1);
                need("]");
                return s;
            }
            boolean number = !t.isEmpty() && kind(t.charAt(0)) == 2;
            if (!number && !(second ? SECOND : FIRST).contains(t) || parts == 50) {
                throw fault();
            }
            if (number) {
                long value = number(0, 1000);
                parts++;
                return w -> value;
            }
            parts++;
            at++;
            int s = second && (t.equals("cell") || t.equals("powder")) ? number(0, 2) : NONE;
            return w -> w.of(t, s);
        }
    }

    /** Whether a clause's test is so; one that is broken is not. */
    static boolean asked(Clause c, Words words) {
        try {
            return c.test == null || c.test.so(words);
        } catch (Broken b) {
            return false;
        }
    }

    // ---- laws

    static Words lawWords(State s, int ship, Ship as, int sign, int means) {
        Map<String, Integer> told = new HashMap<>();
        told.put("ship", ship);
        told.put("sign", sign);
        told.put("long", sign == NONE ? NONE : s.signs.get(sign).row.length());
        told.put("means", means);
        told.put("cell", as.cell);
        told.put("powder", as.powder);
        told.put("day", s.terms[0]);
        told.put("mood", s.terms[2]);
        return (word, k) -> told.get(word);
    }

    static Long told(List<Clause> law, String kind, Words words) {
        Long last = null;
        for (Clause c : law) {
            if (c.kind.equals(kind) && asked(c, words)) {
                try {
                    last = c.sum == null ? 1 : c.sum.value(words);
                } catch (Broken b) {
                    // it does not hold
                }
            }
        }
        return last;
    }

    static int weighs(State s, List<Clause> law, int ship, int sign) {
        Sign of = s.signs.get(sign);
        Long told = told(law, "weighs", lawWords(s, ship, s.ships.get(ship), sign, of.means));
        return told == null ? of.row.length() : (int) Math.max(0, Math.min(99, told));
    }

    static int goes(State s, int ship, Ship as) {
        Long told = told(s.inForce(), "goes", lawWords(s, ship, as, NONE, 0));
        return told == null ? 1 : (int) Math.max(0, Math.min(4, told));
    }

    static boolean barred(State s, int ship, Ship as, int order) {
        return told(s.inForce(), "bars", lawWords(s, ship, as, NONE, order)) != null;
    }

    static Ship does(State s, int ship, Ship as, int order) {
        if (barred(s, ship, as, order)) {
            return as;
        }
        switch (order) {
            case 0: {
                int x = as.cell % 5;
                int y = as.cell / 5;
                int many = goes(s, ship, as);
                for (int k = 0; k < many; k++) {
                    int nx = x + (as.faces == 1 ? 1 : as.faces == 3 ? -1 : 0);
                    int ny = y + (as.faces == 0 ? 1 : as.faces == 2 ? -1 : 0);
                    if (nx >= 0 && nx < 5 && ny >= 0 && ny < 5) {
                        x = nx;
                        y = ny;
                    }
                }
                return new Ship(5 * y + x, as.faces, as.powder);
            }
            case 1: return new Ship(as.cell, (as.faces + 3) % 4, as.powder);
            case 2: return new Ship(as.cell, (as.faces + 1) % 4, as.powder);
            case 3: return new Ship(as.cell, (as.faces + 2) % 4, as.powder);
            case 4: return new Ship(as.cell, as.faces, Math.max(0, as.powder - 1));
            default: return as;
        }
    }

    // ---- readings

    static int order(List<Integer> a, List<Integer> b) {
        for (int i = 0; i < Math.min(a.size(), b.size()); i++) {
            if (!a.get(i).equals(b.get(i))) {
                return Integer.compare(a.get(i), b.get(i));
            }
        }
        return Integer.compare(a.size(), b.size());
    }

    static List<List<Integer>> all(State s, String line) {
        List<List<Integer>> found = new ArrayList<>();
        if (line.isEmpty()) {
            found.add(new ArrayList<>());
        }
        for (int k = 0; k < s.signs.size(); k++) {
            if (!line.isEmpty() && line.startsWith(s.signs.get(k).row)) {
                for (List<Integer> rest : all(s, line.substring(s.signs.get(k).row.length()))) {
                    List<Integer> row = new ArrayList<>(List.of(k));
                    row.addAll(rest);
                    found.add(row);
                }
            }
        }
        return found;
    }

    static int weight(State s, List<Clause> law, int ship, List<Integer> row) {
        int[] weights = new int[s.signs.size()];
        for (int k = 0; k < weights.length; k++) {
            weights[k] = weighs(s, law, ship, k);
        }
        return row.stream().mapToInt(k -> weights[k]).sum();
    }

    static List<Integer> read(State s, List<Clause> law, int ship) {
        int[] weights = new int[s.signs.size()];
        for (int k = 0; k < weights.length; k++) {
            weights[k] = weighs(s, law, ship, k);
        }
        List<Integer> best = null;
        int least = 0;
        for (List<Integer> row : all(s, s.line)) {
            int weight = row.stream().mapToInt(k -> weights[k]).sum();
            if (best == null || weight < least || weight == least && order(row, best) < 0) {
                best = row;
                least = weight;
            }
        }
        return best;
    }

    static Ship sailed(State s, int ship, List<Integer> row) {
        Ship as = s.ships.get(ship);
        for (int k : row) {
            as = does(s, ship, as, s.signs.get(k).means);
        }
        return as;
    }

    // ---- the face

    private int say(int answer) {
        status = 0;
        return answer;
    }

    private int no(int by) {
        status = by;
        refusals.merge(by, 1, Integer::sum);
        return by;
    }

    private int enter(String row, int means) {
        if (!row.matches("[1-4]{1,4}") || means < 0 || means > 5) {
            return -1;
        }
        for (Sign s : now.signs) {
            if (s.row.equals(row)) {
                return -3;
            }
        }
        if (now.signs.size() == 8) {
            return -5;
        }
        now.signs.add(new Sign(row, means));
        return now.signs.size() - 1;
    }

    int sign(int cloths, int means) {
        int k = enter(Integer.toString(cloths), means);
        return k < 0 ? no(k) : say(k);
    }

    int at(int sign, int what) {
        if (sign < 0 || sign >= now.signs.size() || what < 0 || what > 5) {
            return NONE;
        }
        Sign s = now.signs.get(sign);
        return what == 0 ? s.row.length() : what == 1 ? s.means
            : what - 2 < s.row.length() ? s.row.charAt(what - 2) - '1' : NONE;
    }

    int ship(int cell, int faces, int powder) {
        if (cell < 0 || cell > 24 || faces < 0 || faces > 3 || powder < 0 || powder > 9) {
            return no(-1);
        }
        if (now.ships.size() == 3) {
            return no(-5);
        }
        now.ships.add(new Ship(cell, faces, powder));
        acts.clear();
        return say(now.ships.size() - 1);
    }

    static int detail(Ship s, int what) {
        return what == 0 ? s.cell : what == 1 ? s.faces : what == 2 ? s.powder : NONE;
    }

    private boolean there(int ship) {
        return ship >= 0 && ship < now.ships.size();
    }

    int of(int ship, int what) {
        return there(ship) ? detail(now.ships.get(ship), what) : NONE;
    }

    int asks(int ship, int k, int what) {
        if (!there(ship)) {
            return NONE;
        }
        if (what == 0 && k >= 0 && k < now.signs.size()) {
            return weighs(now, now.inForce(), ship, k);
        }
        if (what == 1) {
            return goes(now, ship, now.ships.get(ship));
        }
        if (what == 2 && k >= 0 && k <= 5) {
            return barred(now, ship, now.ships.get(ship), k) ? 1 : 0;
        }
        return NONE;
    }

    int line(int k) {
        return k >= 0 && k < now.line.length() ? now.line.charAt(k) - '1' : NONE;
    }

    int terms(int what, int value) {
        int[] most = {999, 10, 9};
        if (what < 0 || what > 2 || value < 0 || value > most[what]) {
            return no(-1);
        }
        int was = now.terms[what];
        now.terms[what] = value;
        acts.clear();
        return say(was);
    }

    int feed(int a, int b, int c, int d, int e) {
        if (tape.length() > 380) {
            return NONE;
        }
        for (int n : new int[] {a, b, c, d, e}) {
            tape.append((char) (n >>> 24)).append((char) (n >>> 16 & 255));
            tape.append((char) (n >>> 8 & 255)).append((char) (n & 255));
        }
        return tape.length();
    }

    int end(int n) {
        if (n < 0 || n > tape.length()) {
            return NONE;
        }
        tape.setLength(n);
        return n;
    }

    private String emptied() {
        String text = tape.toString();
        tape.setLength(0);
        return text;
    }

    int row() {
        if (tape.length() == 0) {
            return no(-6);
        }
        String text = emptied();
        int came = 0;
        soapTimes = 0;
        while (!text.isEmpty()) {
            String five = text.substring(0, Math.min(5, text.length()));
            text = text.substring(five.length());
            StringBuilder digits = new StringBuilder();
            for (char c : five.substring(1).toCharArray()) {
                digits.append(c <= 9 ? (char) ('0' + c) : 'x');
            }
            String bare = digits.toString().replaceFirst("0+$", "");
            if (five.length() == 5 && enter(bare, five.charAt(0)) >= 0) {
                came++;
            } else {
                soapTimes++;
            }
        }
        return say(came);
    }

    private List<Clause> parsed(boolean second) {
        try {
            faultPlace = NONE;
            return new Parser(emptied(), second).text();
        } catch (Fault f) {
            faultPlace = f.place;
            return null;
        }
    }

    int law() {
        if (now.laws.size() == 6) {
            emptied();
            return no(-5);
        }
        List<Clause> law = parsed(false);
        if (law == null) {
            return no(-6);
        }
        now.laws.add(law);
        return say(now.laws.size() - 1);
    }

    int orders() {
        stoppedAt = NONE;
        List<Clause> clauses = parsed(true);
        if (clauses == null) {
            return no(-6);
        }
        State before = now.copy();
        Deque<Act> actsBefore = new ArrayDeque<>(acts);
        int[] ran = {0, NONE};
        int c = 0;
        try {
            for (; c < clauses.size(); c++) {
                for (int t = 0; t < clauses.get(c).times; t++) {
                    runOnce(clauses.get(c), ran);
                }
            }
        } catch (Refusal | Broken e) {
            now = before;
            acts = actsBefore;
            stoppedAt = c;
            return no(-3);
        }
        return say(ran[0]);
    }

    private void runOnce(Clause c, int[] ran) {
        Words words = (word, k) -> switch (word) {
            case "day" -> now.terms[0];
            case "done" -> ran[0];
            case "latest" -> ran[1];
            case "hung" -> now.line.length();
            case "ways" -> all(now, now.line).size();
            case "cell" -> of(k, 0);
            default -> of(k, 2);
        };
        if (!asked(c, words)) {
            return;
        }
        switch (c.kind) {
            case "hang" -> doHang(c.sum.value(words));
            case "take" -> doTake();
            case "sail" -> ran[1] = doSail(c.sum.value(words));
            default -> doPass();
        }
        ran[0]++;
    }

    int fault() {
        return faultPlace;
    }

    int stopped() {
        return stoppedAt;
    }

    int soap() {
        return soapTimes;
    }

    int force(int law) {
        if (law < NONE || law >= now.laws.size()) {
            return no(-2);
        }
        int was = now.force;
        now.force = law;
        return say(was);
    }

    private void remember(int kind) {
        acts.addLast(new Act(kind, now.line, new ArrayList<>(now.ships), now.terms[0]));
        if (acts.size() > 16) {
            acts.removeFirst();
        }
    }

    private int doHang(long cloth) {
        if (cloth < 0 || cloth > 3) {
            throw new Refusal(-1);
        }
        if (now.line.length() == 12) {
            throw new Refusal(-3);
        }
        remember(0);
        now.line += (char) ('1' + cloth);
        return now.line.length();
    }

    private int doTake() {
        if (now.line.isEmpty()) {
            throw new Refusal(-3);
        }
        remember(1);
        int cloth = line(now.line.length() - 1);
        now.line = now.line.substring(0, now.line.length() - 1);
        return cloth;
    }

    private int doSail(long ship) {
        if (ship < 0 || ship >= now.ships.size()) {
            throw new Refusal(-2);
        }
        List<Integer> row = read(now, now.inForce(), (int) ship);
        if (row == null) {
            throw new Refusal(-3);
        }
        remember(2);
        now.ships.set((int) ship, sailed(now, (int) ship, row));
        return row.size();
    }

    private int doPass() {
        if (now.terms[0] == 999) {
            throw new Refusal(-3);
        }
        remember(3);
        return ++now.terms[0];
    }

    int hang(int cloth) {
        try {
            return say(doHang(cloth));
        } catch (Refusal r) {
            return no(r.by);
        }
    }

    int take() {
        try {
            return say(doTake());
        } catch (Refusal r) {
            return no(r.by);
        }
    }

    int sail(int ship) {
        try {
            return say(doSail(ship));
        } catch (Refusal r) {
            return no(r.by);
        }
    }

    int pass() {
        try {
            return say(doPass());
        } catch (Refusal r) {
            return no(r.by);
        }
    }

    int undo() {
        if (acts.isEmpty()) {
            return no(-3);
        }
        Act a = acts.removeLast();
        now.line = a.line;
        now.ships = new ArrayList<>(a.ships);
        now.terms[0] = a.day;
        return say(a.kind);
    }

    int readings() {
        return all(now, now.line).size();
    }

    private static int told(List<Integer> row, int whole, int i) {
        return i == NONE ? whole : i >= 0 && i < row.size() ? row.get(i) : NONE;
    }

    int reads(int ship, int i) {
        List<Integer> row = there(ship) ? read(now, now.inForce(), ship) : null;
        return row == null ? NONE : told(row, row.size(), i);
    }

    int where(int ship, int what) {
        List<Integer> row = there(ship) ? read(now, now.inForce(), ship) : null;
        return row == null ? NONE : detail(sailed(now, ship, row), what);
    }

    int meetings(int i) {
        List<Integer> twos = new ArrayList<>();
        for (int a = 0; a < now.ships.size(); a++) {
            for (int b = a + 1; b < now.ships.size(); b++) {
                if (where(a, 0) != NONE && where(a, 0) == where(b, 0)) {
                    twos.add(10 * a + b);
                }
            }
        }
        return told(twos, twos.size(), i);
    }

    record Way(int cloths, List<Integer> row, Ship ship) { }

    int plan(int ship, int cell, int i) {
        if (!there(ship) || cell < 0 || cell > 24) {
            return NONE;
        }
        PriorityQueue<Way> open = new PriorityQueue<>((a, b) ->
            a.cloths != b.cloths ? Integer.compare(a.cloths, b.cloths) : order(a.row, b.row));
        Set<Ship> closed = new HashSet<>();
        open.add(new Way(0, List.of(), now.ships.get(ship)));
        while (!open.isEmpty()) {
            Way w = open.remove();
            if (w.ship.cell == cell) {
                return told(w.row, w.cloths, i);
            }
            if (!closed.add(w.ship)) {
                continue;
            }
            for (int k = 0; k < now.signs.size(); k++) {
                Ship next = does(now, ship, w.ship, now.signs.get(k).means);
                if (!closed.contains(next)) {
                    List<Integer> row = new ArrayList<>(w.row);
                    row.add(k);
                    open.add(new Way(w.cloths + now.signs.get(k).row.length(), row, next));
                }
            }
        }
        return NONE;
    }

    int mended(int i) {
        int n = now.line.length();
        Way[] best = new Way[n + 1];
        best[n] = new Way(0, List.of(), null);
        for (int from = n - 1; from >= 0; from--) {
            for (int k = 0; k < now.signs.size(); k++) {
                String row = now.signs.get(k).row;
                if (from + row.length() > n || best[from + row.length()] == null) {
                    continue;
                }
                Way rest = best[from + row.length()];
                int others = rest.cloths;
                for (int j = 0; j < row.length(); j++) {
                    others += row.charAt(j) == now.line.charAt(from + j) ? 0 : 1;
                }
                List<Integer> signs = new ArrayList<>(List.of(k));
                signs.addAll(rest.row);
                Way b = best[from];
                if (b == null || others < b.cloths || others == b.cloths && order(signs, b.row) < 0) {
                    best[from] = new Way(others, signs, null);
                }
            }
        }
        return best[0] == null ? NONE : told(best[0].row, best[0].cloths, i);
    }

    record Ahead(int cloths, String lead) { }

    /** Two readings side by side: by how many cloths at least they come to one end; NONE: never. */
    static int twofold(List<String> rows) {
        PriorityQueue<Ahead> open = new PriorityQueue<>((a, b) -> Integer.compare(a.cloths, b.cloths));
        Set<String> closed = new HashSet<>();
        for (String a : rows) {
            for (String b : rows) {
                if (!a.equals(b) && b.startsWith(a)) {
                    open.add(new Ahead(b.length(), b.substring(a.length())));
                }
            }
        }
        while (!open.isEmpty()) {
            Ahead w = open.remove();
            if (w.lead.isEmpty()) {
                return w.cloths;
            }
            if (!closed.add(w.lead)) {
                continue;
            }
            for (String a : rows) {
                if (w.lead.startsWith(a)) {
                    open.add(new Ahead(w.cloths, w.lead.substring(a.length())));
                } else if (a.startsWith(w.lead)) {
                    int more = a.length() - w.lead.length();
                    open.add(new Ahead(w.cloths + more, a.substring(w.lead.length())));
                }
            }
        }
        return NONE;
    }

    private List<String> rowsWithout(int bits) {
        List<String> rows = new ArrayList<>();
        for (int k = 0; k < now.signs.size(); k++) {
            if ((bits >> k & 1) == 0) {
                rows.add(now.signs.get(k).row);
            }
        }
        return rows;
    }

    int twofold() {
        return twofold(rowsWithout(0));
    }

    int struck(int what) {
        int best = (1 << now.signs.size()) - 1;
        for (int bits = best; bits >= 0; bits--) {
            if (Integer.bitCount(bits) <= Integer.bitCount(best) && twofold(rowsWithout(bits)) == NONE) {
                best = bits;
            }
        }
        return what == 0 ? Integer.bitCount(best) : what == 1 ? best : NONE;
    }

    long rows(int n) {
        if (n < 0 || n > 20) {
            return NONE;
        }
        return rowsOf(n, new HashMap<>());
    }

    private long rowsOf(int n, Map<Integer, Long> known) {
        if (n <= 0) {
            return n == 0 ? 1 : 0;
        }
        Long told = known.get(n);
        if (told == null) {
            told = 0L;
            for (Sign s : now.signs) {
                told += rowsOf(n - s.row.length(), known);
            }
            known.put(n, told);
        }
        return told;
    }

    int seen(int means) {
        if (means < 0 || means > 5) {
            return no(-1);
        }
        if (now.done.size() == 6) {
            return no(-5);
        }
        now.done.add(means);
        return say(now.done.size());
    }

    int forget() {
        int was = now.done.size();
        now.done.clear();
        return was;
    }

    int fits() {
        int fitting = 0;
        for (List<Integer> row : all(now, now.line)) {
            List<Integer> means = row.stream().map(k -> now.signs.get(k).means).toList();
            if (means.size() >= now.done.size() && means.subList(0, now.done.size()).equals(now.done)) {
                fitting++;
            }
        }
        return fitting;
    }

    long few(int k, int n) {
        if (k < 1 || k > 20 || n < 0 || n > 99) {
            return NONE;
        }
        Map<Integer, Long> chances = new TreeMap<>(Map.of(0, 1000000000000L));
        for (int cloth = 0; cloth < n; cloth++) {
            Map<Integer, Long> next = new TreeMap<>();
            chances.forEach((dried, chance) -> {
                next.merge(dried, chance * (10 - now.terms[1]) / 10, Long::sum);
                next.merge(dried + 1, chance * now.terms[1] / 10, Long::sum);
            });
            chances = next;
        }
        return chances.entrySet().stream().filter(e -> e.getKey() < k).mapToLong(Map.Entry::getValue).sum();
    }

    int compare(int law, int ship) {
        if (law < NONE || law >= now.laws.size() || !there(ship)) {
            return NONE;
        }
        List<Clause> other = law == NONE ? List.of() : now.laws.get(law);
        List<Integer> row = read(now, other, ship);
        return row == null ? NONE : weight(now, other, ship, row);
    }

    int months(int seed, int n) {
        if (seed < 0 || seed > 1000000 || n < 1 || n > 60) {
            return no(-1);
        }
        if (now.ships.isEmpty()) {
            return no(-3);
        }
        State p = now.copy();
        long s = seed;
        int sailed = 0;
        for (int t = 0; t < n; t++) {
            if (p.terms[0] == 999) {
                break;
            }
            s = (s * 1103 + 12345) % 1000003;
            int cloth = (int) (s % 4);
            s = (s * 1103 + 12345) % 1000003;
            int ship = (int) (s % p.ships.size());
            if (p.line.length() < 12) {
                p.line += (char) ('1' + cloth);
            }
            List<Integer> row = read(p, p.inForce(), ship);
            if (row != null) {
                p.ships.set(ship, sailed(p, ship, row));
                sailed++;
                p.line = "";
            } else if (p.line.length() == 12) {
                p.line = "";
            }
            p.terms[0]++;
        }
        latestMonths = p.ships;
        return say(sailed);
    }

    int drawn(int ship, int what) {
        return ship >= 0 && ship < latestMonths.size() ? detail(latestMonths.get(ship), what) : NONE;
    }

    int image(int k) {
        if (k != 0 && k != 1) {
            return no(-1);
        }
        images[k] = now.copy();
        return say(0);
    }

    int back(int k) {
        if (k != 0 && k != 1) {
            return no(-1);
        }
        if (images[k] == null) {
            return no(-2);
        }
        now = images[k].copy();
        acts.clear();
        return say(0);
    }

    int count(int what) {
        int[] all = {now.signs.size(), now.ships.size(), now.line.length(), now.done.size(), now.laws.size(),
            acts.size(), tape.length(), refusals.getOrDefault(-1, 0), refusals.getOrDefault(-2, 0),
            refusals.getOrDefault(-3, 0), refusals.getOrDefault(-5, 0), refusals.getOrDefault(-6, 0),
            now.force, now.terms[0], now.terms[1], now.terms[2]};
        return what >= 0 && what < all.length ? all[what] : NONE;
    }

    int status() {
        return status;
    }

    @Override
    public String toString() {
        return now.signs + " " + now.ships + " " + now.line + " " + Arrays.toString(now.terms);
    }
}
