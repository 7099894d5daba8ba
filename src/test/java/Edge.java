import java.io.IOException;
import java.nio.file.Files;
import java.nio.file.Path;

/** One sentence of the document that names an edge, with the calls that hold the class to it. */
final class Edge {
    static final int NONE = WashLine.NONE;
    static final int MAX = Integer.MAX_VALUE;
    static final int MIN = Integer.MIN_VALUE;

    private static String part = "";
    private static String name = "";

    private Edge() { }

    /** What follows is about one part of the document, from one of its texts to another (or its end). */
    static void open(Path root, String from, String to) throws IOException {
        String all = Files.readString(root.resolve("../shared/DOC.md")).replaceAll("\\s+", " ");
        int start = all.indexOf(from);
        int end = to.isEmpty() ? all.length() : all.indexOf(to, Math.max(0, start));
        Due.part(from);
        Due.holds("the document has this part", start >= 0 && end > start);
        part = start >= 0 && end > start ? all.substring(start, end) : "";
        name = from;
    }

    /** The calls must hold the class to the sentence, which must stand in that part just so. */
    static void is(String sentence, Runnable calls) {
        Due.part(name + ": \"" + sentence + "\"");
        Due.holds("the document says so", part.contains(sentence));
        int before = Due.asked();
        calls.run();
        Due.holds("something was asked", Due.asked() > before);
    }

    // ---- objects to ask

    /** Signs of these rows, each of which means AHEAD. */
    static WashLine book(int... rows) {
        WashLine x = new WashLine();
        for (int row : rows) {
            x.sign(row, 0);
        }
        return x;
    }

    /** Sign 0 (a) AHEAD, 1 (b) RIGHT, 2 (ab) FIRE, 3 (cc) ABOUT; a ship in cell 0 that faces up, powder 3. */
    static WashLine ordinary() {
        WashLine x = new WashLine();
        x.sign(1, 0);
        x.sign(2, 2);
        x.sign(12, 4);
        x.sign(33, 3);
        x.ship(0, 0, 3);
        return x;
    }

    /** The same by a law that is in force. */
    static WashLine ordinary(String law) {
        WashLine x = ordinary();
        force(x, law);
        return x;
    }

    /** A ship that reads one sign, which means an order, by a law that is in force ("": none). */
    static WashLine oneOrder(int cell, int faces, int powder, int order, String law) {
        WashLine x = new WashLine();
        x.ship(cell, faces, powder);
        x.sign(1, order);
        x.hang(0);
        if (!law.isEmpty()) {
            force(x, law);
        }
        return x;
    }

    static void force(WashLine x, String law) {
        int number = Due.law(x, law);
        Due.holds("the law " + law, number >= 0);
        x.force(number);
    }

    static void hang(WashLine x, int... cloths) {
        for (int cloth : cloths) {
            x.hang(cloth);
        }
    }

    static void hangTimes(WashLine x, int cloth, int times) {
        for (int k = 0; k < times; k++) {
            x.hang(cloth);
        }
    }

    static int row(WashLine x, int... bytes) {
        StringBuilder text = new StringBuilder();
        for (int b : bytes) {
            text.append((char) b);
        }
        Due.put(x, text.toString());
        return x.row();
    }

    static void ship(String what, WashLine x, int ship, int cell, int faces, int powder) {
        Due.is(what + ": cell", x.of(ship, 0), cell);
        Due.is(what + ": faces", x.of(ship, 1), faces);
        Due.is(what + ": powder", x.of(ship, 2), powder);
    }

    /** What a test tells: 1, or 0 if it is not so or broken. */
    static int so(String test) {
        WashLine x = new WashLine();
        x.ship(0, 0, 0);
        force(x, "bars if " + test);
        return x.asks(0, 0, 2);
    }

    /** All that stands, as some 100 answers: a refused call must leave it as it is. */
    static String all(WashLine x) {
        StringBuilder told = new StringBuilder();
        for (int k = 0; k < 16; k++) {
            told.append(k < 7 || k > 11 ? x.count(k) : 0).append(' ');
        }
        int signs = x.count(0);
        for (int sign = 0; sign < signs; sign++) {
            int size = x.at(sign, 0);
            for (int what = 0; what < 2 + size; what++) {
                told.append(x.at(sign, what)).append(' ');
            }
        }
        int ships = x.count(1);
        for (int ship = 0; ship < ships; ship++) {
            for (int what = 0; what < 3; what++) {
                told.append(x.of(ship, what)).append(' ').append(x.drawn(ship, what)).append(' ');
            }
            told.append(x.asks(ship, 0, 0)).append(' ').append(x.asks(ship, 0, 1)).append(' ');
        }
        int cloths = x.count(2);
        for (int k = 0; k < cloths; k++) {
            told.append(x.line(k)).append(' ');
        }
        return told.append(x.fits()).append(' ').append(x.soap()).append(' ').append(x.fault()).append(' ')
            .append(x.stopped()).toString();
    }

    /** A call that must be refused, by a number, and change nothing else. */
    static void refused(WashLine x, String call, java.util.function.ToIntFunction<WashLine> made, int by) {
        String before = all(x);
        int which = by == -1 ? 7 : by == -2 ? 8 : by == -3 ? 9 : by == -5 ? 10 : 11;
        int had = x.count(which);
        Due.is(call, made.applyAsInt(x), by);
        Due.is(call + ": status()", x.status(), by);
        Due.is(call + ": how many were refused", x.count(which), had + 1);
        Due.holds(call + " changes nothing", before.equals(all(x)));
    }
}
