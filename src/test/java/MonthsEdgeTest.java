import java.io.IOException;
import java.nio.file.Path;

/** The edges that the document's Terms IV name, sentence by sentence: months, rows of signs, images. */
public final class MonthsEdgeTest {
    private static final int NONE = Edge.NONE;
    private static final int MAX = Edge.MAX;
    private static final int MIN = Edge.MIN;

    private MonthsEdgeTest() { }

    /** The k-th draw (1 on) from a seed. */
    private static long draw(int seed, int k) {
        long s = seed;
        for (int n = 0; n < k; n++) {
            s = (s * 1103 + 12345) % 1000003;
        }
        return s;
    }

    private static int cloth(int seed, int time) {
        return (int) (draw(seed, 2 * time - 1) % 4);
    }

    private static int shipOf(int seed, int time, int ships) {
        return (int) (draw(seed, 2 * time) % ships);
    }

    /** Each cloth a sign of its own that means FIRE or WAIT; three ships with powder 9. */
    private static WashLine each() {
        WashLine x = new WashLine();
        for (int cloth = 0; cloth < 4; cloth++) {
            x.sign(cloth + 1, cloth == 0 ? 4 : cloth == 1 ? 0 : cloth == 2 ? 2 : 5);
        }
        x.ship(12, 0, 9);
        x.ship(0, 1, 9);
        x.ship(24, 2, 9);
        return x;
    }

    private static void seeds() {
        for (int wrong : new int[] {-1, 1000001, 1000003, MAX, MIN}) {
            Edge.refused(each(), "months(" + wrong + ", 1)", y -> y.months(wrong, 1), -1);
        }
        for (int wrong : new int[] {0, 61, -1, MAX, MIN}) {
            Edge.refused(each(), "months(1, " + wrong + ")", y -> y.months(1, wrong), -1);
        }
        WashLine x = each();
        Due.is("nothing was drawn", x.drawn(0, 0), NONE);
        Due.is("months(0, 1)", x.months(0, 1), 1);
        Due.is("months(1000000, 1)", x.months(1000000, 1), 1);
        Due.is("months(0, 60)", x.months(0, 60), 60);
        Due.is("months(1000000, 60)", x.months(1000000, 60), 60);
    }

    /** What the ships are behind the months, by draws that are made here a second time. */
    private static void drawn(int seed, int n) {
        WashLine x = each();
        int[] cells = {12, 0, 24};
        int[] ways = {0, 1, 2};
        int[] powders = {9, 9, 9};
        int[] step = {5, 1, -5, -1};
        for (int t = 1; t <= n; t++) {
            int ship = shipOf(seed, t, 3);
            int cloth = cloth(seed, t);
            int x0 = cells[ship] % 5;
            int y0 = cells[ship] / 5;
            int way = ways[ship];
            boolean edge = way == 0 ? y0 == 4 : way == 1 ? x0 == 4 : way == 2 ? y0 == 0 : x0 == 0;
            cells[ship] += cloth == 1 && !edge ? step[way] : 0;
            ways[ship] = cloth == 2 ? (way + 1) % 4 : way;
            powders[ship] -= cloth == 0 && powders[ship] > 0 ? 1 : 0;
        }
        Due.is("months(" + seed + ", " + n + ")", x.months(seed, n), n);
        for (int ship = 0; ship < 3; ship++) {
            Due.is("cell of " + ship + " from " + seed, x.drawn(ship, 0), cells[ship]);
            Due.is("way of " + ship + " from " + seed, x.drawn(ship, 1), ways[ship]);
            Due.is("powder of " + ship + " from " + seed, x.drawn(ship, 2), powders[ship]);
        }
    }

    private static void draws() {
        Due.is("just below the modulus", draw(895, 1), 999530);
        Due.is("just beyond it", draw(896, 1), 1000633 - 1000003);
        Due.is("the highest seed", draw(1000000, 1), (1000000L * 1103 + 12345) % 1000003);
        for (int seed : new int[] {0, 1, 895, 896, 1802, 1803, 65535, 65536, 999999, 1000000}) {
            drawn(seed, 1);
            drawn(seed, 2);
            drawn(seed, 60);
        }
        // A seed from which the first draw is the modulus itself, so 0.
        int zero = 0;
        while (zero < 1000000 && draw(zero, 1) != 0) {
            zero++;
        }
        Due.is("a draw of 0", draw(zero, 1), 0);
        drawn(zero, 3);
    }

    private static void lastDay() {
        WashLine x = each();
        x.terms(0, 999);
        Due.is("day 999: none", x.months(5, 60), 0);
        Due.is("as they are", x.drawn(2, 0), 24);
        x.terms(0, 998);
        Due.is("day 998: one", x.months(5, 60), 1);
        x.terms(0, 940);
        Due.is("59 days", x.months(5, 60), 59);
        x.terms(0, 939);
        Due.is("60 days", x.months(5, 60), 60);
        Due.is("on paper", x.count(13), 939);
        WashLine y = each();
        Edge.force(y, "goes 4 if day = 998; goes 0");
        y.terms(0, 998);
        Due.is("the day is still 998 as it sails", y.months(5, 1), 1);
    }

    /** The law is asked on the day of each time. */
    private static void daysPass() {
        WashLine x = Edge.book(1, 2, 3, 4);
        x.ship(0, 0, 0);
        Edge.force(x, "bars if day < 3; bars if day > 4");
        x.months(0, 3);
        Due.is("days 0, 1, 2: barred", x.drawn(0, 0), 0);
        x.months(0, 4);
        Due.is("day 3", x.drawn(0, 0), 5);
        x.months(0, 5);
        Due.is("day 4", x.drawn(0, 0), 10);
        x.months(0, 60);
        Due.is("day 5 on: barred", x.drawn(0, 0), 10);
        x.terms(0, 4);
        x.months(0, 60);
        Due.is("from day 4 on", x.drawn(0, 0), 5);
    }

    private static void room() {
        // Twelve cloths that can be read as three signs: with a thirteenth, or one less, they could not.
        WashLine x = new WashLine();
        x.ship(0, 0, 9);
        x.sign(4444, 4);
        Edge.hangTimes(x, 3, 12);
        Due.is("no room, but a reading", x.months(0, 1), 1);
        Due.is("three shots", x.drawn(0, 2), 6);
        Due.is("on paper", x.count(2), 12);
        // Eleven, and the drawn cloth makes twelve.
        int seed = 0;
        while (cloth(seed, 1) != 3) {
            seed++;
        }
        x.take();
        Due.is("the twelfth is hung", x.months(seed, 1), 1);
        Due.is("three shots", x.drawn(0, 2), 6);
        while (cloth(seed, 1) == 3) {
            seed++;
        }
        Due.is("another twelfth", x.months(seed, 1), 0);
        Due.is("no shots", x.drawn(0, 2), 9);
    }

    /** Signs for the cloths 0, 1, 2 alone; so many of cloth 3 hang, and seed 0 draws 1, 1, .. */
    private static WashLine unread(int cloths) {
        WashLine x = Edge.book(1, 2, 3);
        x.ship(0, 0, 0);
        Edge.hangTimes(x, 3, cloths);
        return x;
    }

    private static void allOff() {
        for (int k = 1; k <= 3; k++) {
            Due.holds("a cloth that is a sign", cloth(0, k) < 3);
        }
        Due.is("12: off", unread(12).months(0, 1), 0);
        Due.is("12: off, then one is read", unread(12).months(0, 2), 1);
        Due.is("11: one more, off", unread(11).months(0, 1), 0);
        Due.is("11: one more, off, then one is read", unread(11).months(0, 2), 1);
        Due.is("10: eleven stay", unread(10).months(0, 2), 0);
        Due.is("10: off the second time", unread(10).months(0, 3), 1);
        WashLine x = new WashLine();
        x.ship(3, 1, 2);
        Due.is("no signs: none ever", x.months(0, 60), 0);
        Due.is("as it was", x.drawn(0, 0), 3);
        // Two cloths to a sign: what is read goes off the line, so the next sign starts anew.
        WashLine y = Edge.book(11, 12, 13, 14, 22, 23, 24);
        y.sign(21, 5);
        y.ship(0, 0, 0);
        int sailed = 0;
        StringBuilder line = new StringBuilder();
        for (int t = 1; t <= 60; t++) {
            line.append(cloth(77, t) + 1);
            boolean reads = line.length() % 2 == 0;
            for (int i = 0; i + 1 < line.length(); i += 2) {
                String two = line.substring(i, i + 2);
                reads = reads && ("11 12 13 14 22 23 24 21").contains(two);
            }
            sailed += reads ? 1 : 0;
            line.setLength(reads || line.length() == 12 ? 0 : line.length());
        }
        Due.is("signs of two", y.months(77, 60), sailed);
        Due.holds("some sailed", sailed > 0);
    }

    private static void fives() {
        WashLine x = new WashLine();
        Due.is("two", Edge.row(x, 0, 1, 0, 0, 0, 5, 4, 3, 2, 1), 2);
        Due.is("soap()", x.soap(), 0);
        Due.is("the first means", x.at(0, 1), 0);
        Due.is("the second means", x.at(1, 1), 5);
        int[] due = {3, 2, 1, 0};
        for (int k = 0; k < 4; k++) {
            Due.is("a cloth is one less", x.at(1, 2 + k), due[k]);
        }
        Due.is("how long", x.at(0, 0), 1);
        for (int size = 1; size <= 4; size++) {
            int[] one = {1, 2, 0, 0, 0};
            for (int k = 1; k <= size; k++) {
                one[k] = 2;
            }
            Due.is("0s behind the last one", Edge.row(x, one), 1);
            Due.is("how long", x.at(1 + size, 0), size);
        }
    }

    private static void soap(WashLine x, String what, int... bytes) {
        int had = x.count(0);
        Due.is(what, Edge.row(x, bytes), 0);
        Due.is(what + ": soap()", x.soap(), (bytes.length + 4) / 5);
        Due.is(what + ": nothing", x.count(0), had);
        Due.is(what + ": not refused", x.status(), 0);
        Due.is(what + ": the tape is empty", x.count(6), 0);
    }

    private static void soaps() {
        WashLine x = Edge.book(1, 12);
        soap(x, "no cloths", 0, 0, 0, 0, 0);
        soap(x, "a 0 ahead of one", 0, 0, 1, 0, 0);
        soap(x, "a 0 between", 0, 1, 0, 1, 0);
        soap(x, "a 0 between", 0, 1, 1, 0, 1);
        soap(x, "a 0 ahead of all", 0, 0, 0, 0, 1);
        soap(x, "cloth 5", 0, 5, 0, 0, 0);
        soap(x, "cloth 5 the last", 0, 1, 1, 1, 5);
        soap(x, "cloth 255", 0, 2, 255, 0, 0);
        soap(x, "cloth 128", 0, 128, 0, 0, 0);
        soap(x, "means 6", 6, 2, 0, 0, 0);
        soap(x, "means 128", 128, 2, 0, 0, 0);
        soap(x, "means 255", 255, 2, 0, 0, 0);
        soap(x, "the row of another sign", 0, 1, 0, 0, 0);
        soap(x, "the row of another sign, another meaning", 5, 1, 2, 0, 0);
        soap(x, "one of four bytes", 0, 2, 0, 0);
        soap(x, "one of one byte", 0);
        soap(x, "two of nine bytes", 0, 1, 0, 0, 0, 0, 2, 0, 0);
        Due.is("one that came in this row", Edge.row(x, 0, 3, 0, 0, 0, 1, 3, 0, 0, 0), 1);
        Due.is("the row of another sign of this row", x.soap(), 1);
        Due.is("the first stays", x.at(2, 1), 0);
        Due.is("one within which the tape ends", Edge.row(x, 0, 4, 0, 0, 0, 0, 4, 4, 0), 1);
        Due.is("soap()", x.soap(), 1);
    }

    private static void noRoom() {
        WashLine x = Edge.book(1, 2, 3, 4, 11, 12, 13);
        Due.is("room for one of two", Edge.row(x, 0, 1, 4, 0, 0, 0, 2, 1, 0, 0), 1);
        Due.is("soap()", x.soap(), 1);
        Due.is("the first of them", x.at(7, 3), 3);
        soap(x, "no room", 0, 2, 1, 0, 0);
        soap(x, "no room for two", 0, 2, 1, 0, 0, 0, 2, 2, 0, 0);
        Due.is("refused by -5", x.count(10), 0);
        Due.is("refused by -3", x.count(9), 0);
        Due.is("refused by -1", x.count(7), 0);
        WashLine y = new WashLine();
        int[] full = new int[400];
        for (int k = 0; k < 80; k++) {
            full[5 * k + 1] = 1 + k % 4;
            full[5 * k + 2] = 1 + k / 4 % 4;
            full[5 * k + 3] = k / 16 % 5;
        }
        Due.is("a tape of 400: eight of eighty", Edge.row(y, full), 8);
        Due.is("soap()", y.soap(), 72);
        Due.is("the tape is empty", y.count(6), 0);
    }

    private static void kept() {
        WashLine x = Edge.ordinary("goes 2");
        Edge.hang(x, 0, 1, 0);
        x.seen(0);
        x.terms(0, 5);
        x.terms(1, 6);
        x.terms(2, 7);
        x.image(0);
        String then = Edge.all(x);
        x.sign(4, 0);
        x.ship(9, 1, 4);
        x.sail(0);
        x.sail(1);
        Edge.force(x, "goes 3");
        x.take();
        x.hang(3);
        x.seen(1);
        x.pass();
        x.terms(1, 1);
        x.terms(2, 1);
        Due.is("back(0)", x.back(0), 0);
        Due.holds("all that it keeps is as it was then", then.equals(Edge.all(x)));
        Due.is("sign 4 is no more", x.at(4, 0), NONE);
        Due.is("the law", x.asks(0, 0, 1), 2);
        x.forget();
        x.force(NONE);
        Edge.hangTimes(x, 2, 9);
        x.terms(0, 999);
        Due.is("images stay", x.back(0), 0);
        Due.holds("all is as it was then, again", then.equals(Edge.all(x)));
    }

    private static void notKept() {
        WashLine x = Edge.ordinary();
        x.feed(1, 2, 3, 4, 5);
        x.image(0);
        x.feed(1, 2, 3, 4, 5);
        x.end(33);
        x.back(0);
        Due.is("the tape", x.count(6), 33);
        x.end(0);
        x.image(1);
        Due.law(x, "goes x");
        Edge.row(x, 9, 9, 9, 9, 9);
        Due.orders(x, "pass; take");
        x.months(3, 5);
        int cell = x.drawn(0, 0);
        int way = x.drawn(0, 1);
        x.hang(0);
        x.back(1);
        Due.is("fault(): of the orders, none", x.fault(), NONE);
        Due.is("soap()", x.soap(), 1);
        Due.is("where orders stopped", x.stopped(), 1);
        Due.is("the latest months", x.drawn(0, 0), cell);
        Due.is("the latest months", x.drawn(0, 1), way);
        Due.is("nothing can be undone", x.count(5), 0);
        Due.is("nothing can be undone", x.undo(), -3);
        Due.law(x, "goes x");
        x.image(0);
        Due.law(x, "goes 1");
        x.back(0);
        Due.is("fault(): of the later law, none", x.fault(), NONE);
        Due.law(x, "bars bars");
        x.back(0);
        Due.is("fault()", x.fault(), 5);
    }

    /** An image made ahead of the first months, and one made ahead of a ship that they had. */
    private static void notKeptMonths() {
        WashLine x = new WashLine();
        x.image(0);
        x.ship(7, 1, 3);
        Due.is("no signs", x.months(0, 1), 0);
        x.image(1);
        x.back(0);
        Due.is("no ship", x.of(0, 0), NONE);
        Due.is("the latest months stay", x.drawn(0, 0), 7);
        Due.is("months without ships", x.months(0, 1), -3);
        Due.is("they stay", x.drawn(0, 0), 7);
        x.back(1);
        x.sign(1, 2);
        x.sign(2, 2);
        x.months(0, 1);
        Due.is("on", x.drawn(0, 1), 2);
        x.back(1);
        Due.is("the latest months stay", x.drawn(0, 1), 2);
    }

    private static void undone() {
        WashLine x = Edge.ordinary();
        Edge.hang(x, 0, 1);
        x.image(0);
        Due.is("image() leaves what can be undone", x.count(5), 2);
        x.sail(0);
        x.pass();
        x.back(0);
        Due.is("nothing, behind back()", x.count(5), 0);
        Due.is("nothing, behind back()", x.undo(), -3);
        x.take();
        Due.is("what comes then can be undone", x.undo(), 1);
        Due.is("but no more", x.undo(), -3);
        Due.is("the line", x.count(2), 2);
        x.pass();
        Due.is("back(1), refused", x.back(1), -2);
        Due.is("back(2), refused", x.back(2), -1);
        Due.is("a refused back() leaves what can be undone", x.undo(), 3);
    }

    private static void two() {
        WashLine x = new WashLine();
        x.hang(0);
        x.image(0);
        x.hang(1);
        x.image(1);
        x.hang(2);
        x.back(0);
        Due.is("image 0", x.count(2), 1);
        x.back(1);
        Due.is("image 1", x.count(2), 2);
        x.back(0);
        x.image(1);
        x.hang(3);
        x.back(1);
        Due.is("image 1, kept anew", x.count(2), 1);
        x.hang(3);
        x.image(0);
        x.back(1);
        x.back(0);
        Due.is("image 0, kept anew", x.count(2), 2);
        Due.is("its last cloth", x.line(1), 3);
    }

    public static void main(String[] args) throws IOException {
        Path root = Path.of(args[0]);
        Edge.open(root, "IV. MONTHS", "The constants:");
        Edge.is("MONTHS with a SEED, n 1 .. 60, on paper: s is the SEED (0 .. 1,000,000);", MonthsEdgeTest::seeds);
        Edge.is("s becomes (s times 1103 and 12345) modulo 1,000,003, it is s modulo m.", MonthsEdgeTest::draws);
        Edge.is("Each time, as long as DAY is below 999", MonthsEdgeTest::lastDay);
        Edge.is("that CLOTH is HUNG, if there is room;", MonthsEdgeTest::room);
        Edge.is("if it has none, and 12 CLOTHS, all are off;", MonthsEdgeTest::allOff);
        Edge.is("then the DAY passes.", MonthsEdgeTest::daysPass);
        Edge.is("CLOTHS, each 1 more than it, 0s behind the last one: a SIGN;", MonthsEdgeTest::fives);
        Edge.is("one that can't be (the row of another SIGN, too), one within which the TAPE ends", MonthsEdgeTest::soaps);
        Edge.is("one for which there is no room is SOAP: nothing.", MonthsEdgeTest::noRoom);
        Edge.is("IMAGES 0, 1 keep all but", MonthsEdgeTest::two);
        Edge.is("all but the TAPE, FAULT, SOAP, where ORDERS stopped", MonthsEdgeTest::notKept);
        Edge.is("what can be undone (nothing, behind back())", MonthsEdgeTest::undone);
        Edge.is("the latest MONTHS;", MonthsEdgeTest::notKeptMonths);
        Edge.is("BACK to one all that it keeps is as it was then (IMAGES stay).", MonthsEdgeTest::kept);
        Due.finish("MonthsEdgeTest");
    }
}
