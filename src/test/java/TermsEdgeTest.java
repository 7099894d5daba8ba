import java.io.IOException;
import java.nio.file.Path;
import java.util.Arrays;

/** The edges that the document's Terms I and III name, sentence by sentence. */
public final class TermsEdgeTest {
    private static final int NONE = Edge.NONE;
    private static final int MAX = Edge.MAX;
    private static final int MIN = Edge.MIN;

    private TermsEdgeTest() { }

    // ---- I

    private static void cloths() {
        WashLine x = new WashLine();
        for (int wrong : new int[] {-1, 4, 5, -4, 8, 256, MAX, MIN}) {
            Edge.refused(x, "hang(" + wrong + ")", y -> y.hang(wrong), -1);
        }
        for (int k = 0; k < 4; k++) {
            Due.is("hang(" + k + ")", x.hang(k), k + 1);
            Due.is("line(" + k + ")", x.line(k), k);
        }
        x.sign(1234, 0);
        for (int k = 0; k < 4; k++) {
            Due.is("at(0, " + (2 + k) + ")", x.at(0, 2 + k), k);
        }
        Due.is("the line is that sign", x.readings(), 1);
    }

    private static void line() {
        WashLine x = new WashLine();
        Due.is("none at first", x.count(2), 0);
        Due.is("none at first", x.line(0), NONE);
        for (int k = 0; k < 12; k++) {
            Due.is("hang", x.hang((k + 3) % 4), k + 1);
        }
        Edge.refused(x, "a thirteenth", y -> y.hang(0), -3);
        for (int k = 0; k < 12; k++) {
            Due.is("line(" + k + ")", x.line(k), (k + 3) % 4);
        }
        Due.is("line(12)", x.line(12), NONE);
        Due.is("orders hang no thirteenth", Due.orders(x, "hang 0"), -3);
        x.take();
        Due.is("there is room again", x.hang(1), 12);
    }

    private static void eightSigns() {
        WashLine x = new WashLine();
        Due.is("none at first", x.count(0), 0);
        int[] rows = {1, 2, 3, 4, 11, 12, 13, 14};
        for (int k = 0; k < 8; k++) {
            Due.is("no such sign yet", x.at(k, 0), NONE);
            Due.is("sign " + k, x.sign(rows[k], k % 6), k);
            Due.is("what it means", x.at(k, 1), k % 6);
        }
        Edge.refused(x, "a ninth", y -> y.sign(4444, 0), -5);
        Due.is("at(8, 0)", x.at(8, 0), NONE);
        Due.is("a ninth by row(): soap", Edge.row(x, 0, 4, 4, 4, 4), 0);
        Due.is("count(0)", x.count(0), 8);
    }

    private static void longSigns() {
        WashLine x = new WashLine();
        int[] rows = {4, 44, 444, 4444};
        for (int k = 0; k < 4; k++) {
            Due.is("sign(" + rows[k] + ")", x.sign(rows[k], 0), k);
            Due.is("how long", x.at(k, 0), k + 1);
            Due.is("its last cloth", x.at(k, 2 + k), 3);
            Due.is("behind it", x.at(k, 3 + k), NONE);
        }
        Edge.refused(x, "no cloths", y -> y.sign(0, 0), -1);
        Edge.refused(x, "five cloths", y -> y.sign(11111, 0), -1);
        Edge.refused(x, "five cloths", y -> y.sign(44444, 0), -1);
        Due.is("no cloths by row(): soap", Edge.row(x, 0, 0, 0, 0, 0), 0);
    }

    private static void sameRow() {
        WashLine x = new WashLine();
        int[] rows = {1, 11, 111, 1111, 21, 12};
        for (int k = 0; k < rows.length; k++) {
            Due.is("another row: " + rows[k], x.sign(rows[k], 0), k);
        }
        for (int row : rows) {
            Edge.refused(Edge.book(rows), "the same row: " + row, y -> y.sign(row, 5), -3);
        }
        Due.is("the same row by row(): soap", Edge.row(x, 5, 1, 1, 0, 0), 0);
        Due.is("soap()", x.soap(), 1);
        Due.is("what it means stays", x.at(1, 1), 0);
    }

    private static void orders() {
        int[][] due = {{17, 0, 5}, {12, 3, 5}, {12, 1, 5}, {12, 2, 5}, {12, 0, 4}, {12, 0, 5}};
        for (int order = 0; order < 6; order++) {
            WashLine x = Edge.oneOrder(12, 0, 5, order, "");
            Due.is("sail(0)", x.sail(0), 1);
            Edge.ship("order " + order, x, 0, due[order][0], due[order][1], due[order][2]);
        }
        WashLine x = new WashLine();
        for (int wrong : new int[] {-1, 6, MAX, MIN}) {
            Edge.refused(x, "sign(1, " + wrong + ")", y -> y.sign(1, wrong), -1);
            Edge.refused(x, "seen(" + wrong + ")", y -> y.seen(wrong), -1);
        }
        Due.is("row() with 6", Edge.row(x, 6, 1, 0, 0, 0), 0);
        Due.is("row() with 255", Edge.row(x, 255, 1, 0, 0, 0), 0);
        Due.is("row() with 5", Edge.row(x, 5, 1, 0, 0, 0), 1);
    }

    private static void threeShips() {
        WashLine x = new WashLine();
        Due.is("none at first", x.count(1), 0);
        for (int k = 0; k < 3; k++) {
            Due.is("no such ship yet", x.of(k, 0), NONE);
            Due.is("nor to sail", x.sail(k), -2);
            Due.is("ship " + k, x.ship(k, k, k), k);
            Due.is("sail(" + k + ")", x.sail(k), 0);
        }
        Edge.refused(x, "a fourth", y -> y.ship(0, 0, 0), -5);
        Edge.refused(x, "sail(3)", y -> y.sail(3), -2);
        Due.is("of(3, 0)", x.of(3, 0), NONE);
        Due.is("of(-1, 0)", x.of(-1, 0), NONE);
    }

    private static void cells() {
        WashLine x = new WashLine();
        for (int wrong : new int[] {-1, 25, MAX, MIN}) {
            Edge.refused(x, "ship(" + wrong + ", 0, 0)", y -> y.ship(wrong, 0, 0), -1);
        }
        Due.is("ship(0, 0, 0)", x.ship(0, 0, 0), 0);
        Due.is("ship(24, 0, 0)", x.ship(24, 0, 0), 1);
        Due.is("of(1, 0)", x.of(1, 0), 24);
        int[] dx = {0, 1, 0, -1};
        int[] dy = {1, 0, -1, 0};
        for (int cell = 0; cell < 25; cell++) {
            for (int way = 0; way < 4; way++) {
                int nx = cell % 5 + dx[way];
                int ny = cell / 5 + dy[way];
                boolean off = nx < 0 || nx > 4 || ny < 0 || ny > 4;
                WashLine y = Edge.oneOrder(cell, way, 0, 0, "");
                y.sail(0);
                Due.is("from " + cell + " the way " + way, y.of(0, 0), off ? cell : 5 * ny + nx);
            }
        }
    }

    private static void ways() {
        WashLine x = new WashLine();
        for (int wrong : new int[] {-1, 4, MAX, MIN}) {
            Edge.refused(x, "ship(0, " + wrong + ", 0)", y -> y.ship(0, wrong, 0), -1);
        }
        int[] due = {17, 13, 7};
        for (int way = 0; way < 3; way++) {
            Due.is("ship", x.ship(12, way, 0), way);
            Due.is("of", x.of(way, 1), way);
        }
        x.sign(1, 0);
        x.hang(0);
        for (int way = 0; way < 3; way++) {
            Due.is("where", x.where(way, 0), due[way]);
        }
        Due.is("left", Edge.oneOrder(12, 3, 0, 0, "").where(0, 0), 11);
    }

    private static void powder() {
        WashLine x = new WashLine();
        for (int wrong : new int[] {-1, 10, MAX, MIN}) {
            Edge.refused(x, "ship(0, 0, " + wrong + ")", y -> y.ship(0, 0, wrong), -1);
        }
        Due.is("ship(0, 0, 0)", x.ship(0, 0, 0), 0);
        Due.is("ship(0, 0, 9)", x.ship(0, 0, 9), 1);
        Due.is("of(0, 2)", x.of(0, 2), 0);
        Due.is("of(1, 2)", x.of(1, 2), 9);
    }

    private static void done() {
        WashLine x = new WashLine();
        Due.is("none at first", x.count(3), 0);
        for (int k = 0; k < 6; k++) {
            Due.is("seen(" + k + ")", x.seen(k), k + 1);
        }
        Edge.refused(x, "a seventh", y -> y.seen(0), -5);
        Due.is("count(3)", x.count(3), 6);
        WashLine y = new WashLine();
        for (int k = 0; k < 4; k++) {
            y.sign(k + 1, k);
        }
        Edge.hang(y, 0, 1, 2, 3, 3, 0, 1);
        int[] done = {0, 1, 2, 3, 3, 0};
        for (int means : done) {
            y.seen(means);
            Due.is("one behind the other", y.fits(), 1);
        }
    }

    private static void terms() {
        WashLine x = new WashLine();
        int[] most = {999, 10, 9};
        int[] first = {0, 5, 0};
        for (int what = 0; what < 3; what++) {
            int of = what;
            Due.is("at first, of " + what, x.count(13 + what), first[what]);
            for (int wrong : new int[] {-1, most[what] + 1, MAX, MIN}) {
                Edge.refused(new WashLine(), "terms(" + what + ", " + wrong + ")", y -> y.terms(of, wrong), -1);
            }
        }
        for (int what = 0; what < 3; what++) {
            Due.is("to the highest", x.terms(what, most[what]), first[what]);
            Due.is("count", x.count(13 + what), most[what]);
            Due.is("to the lowest", x.terms(what, 0), most[what]);
            Due.is("count", x.count(13 + what), 0);
        }
        for (int wrong : new int[] {-1, 3, MAX, MIN}) {
            Edge.refused(x, "terms(" + wrong + ", 0)", y -> y.terms(wrong, 0), -1);
        }
    }

    private static void firstOfThese() {
        WashLine x = Edge.book(1, 2, 3, 4, 11, 12, 13, 14);
        Due.is("-1 ahead of -3", x.sign(1, 6), -1);
        Due.is("-1 ahead of -5", x.sign(55, 0), -1);
        Due.is("-3 ahead of -5", x.sign(14, 0), -3);
        Due.is("months: -1 ahead of -3", x.months(-1, 1), -1);
        Due.is("months: -1 ahead of -3", x.months(0, 61), -1);
        Due.is("months: -3", x.months(0, 60), -3);
        for (int k = 0; k < 3; k++) {
            x.ship(0, 0, 0);
        }
        Due.is("ship: -1 ahead of -5", x.ship(25, 0, 0), -1);
        Due.is("ship: -1 ahead of -5", x.ship(0, 4, 0), -1);
        Due.is("ship: -1 ahead of -5", x.ship(0, 0, 10), -1);
        Edge.hangTimes(x, 3, 12);
        Due.is("hang: -1 ahead of -3", x.hang(4), -1);
        WashLine y = Edge.ordinary();
        y.hang(3);
        Due.is("sail: -2 ahead of -3", y.sail(1), -2);
        for (int k = 0; k < 6; k++) {
            y.seen(0);
        }
        Due.is("seen: -1 ahead of -5", y.seen(6), -1);
        Due.is("back: -1 ahead of -2", y.back(2), -1);
        for (int k = 0; k < 6; k++) {
            Due.law(y, "bars");
        }
        Due.is("law: -5 ahead of -6", y.law(), -5);
        Due.is("law: -5 ahead of -6", Due.law(y, "bar"), -5);
        Due.is("-1", y.count(7), 2);
        Due.is("-2", y.count(8), 1);
        Due.is("-5", y.count(10), 2);
        Due.is("-6", y.count(11), 0);
    }

    // ---- III

    private static void lastOne() {
        WashLine x = new WashLine();
        Edge.hang(x, 2, 0, 3);
        Due.is("the first one stays the first", x.line(0), 2);
        Due.is("the last one", x.line(2), 3);
        Due.is("take()", x.take(), 3);
        Due.is("off", x.line(2), NONE);
        Due.is("take()", x.take(), 0);
        Due.is("take()", x.take(), 2);
        Edge.refused(x, "take() of none", WashLine::take, -3);
    }

    private static void noCloths() {
        for (WashLine x : new WashLine[] {new WashLine(), Edge.book(1, 11)}) {
            x.ship(7, 3, 2);
            Due.is("readings()", x.readings(), 1);
            Due.is("reads(0, NONE)", x.reads(0, NONE), 0);
            Due.is("reads(0, 0)", x.reads(0, 0), NONE);
            Due.is("where", x.where(0, 0), 7);
            Due.is("where", x.where(0, 1), 3);
            Due.is("where", x.where(0, 2), 2);
            Due.is("compare(NONE, 0)", x.compare(NONE, 0), 0);
            Due.is("fits()", x.fits(), 1);
            Due.is("mended(NONE)", x.mended(NONE), 0);
            Due.is("mended(0)", x.mended(0), NONE);
            Due.is("sail(0)", x.sail(0), 0);
            Edge.ship("a sail that reads nothing", x, 0, 7, 3, 2);
            Due.is("can be undone", x.undo(), 2);
            x.hang(3);
            Due.is("a cloth of no sign", x.readings(), 0);
            Due.is("no reading", x.sail(0), -3);
            x.take();
            Due.is("readings()", x.readings(), 1);
        }
    }

    private static void justTheLine() {
        WashLine x = Edge.book(12, 123);
        x.hang(0);
        Due.is("a part of a sign", x.readings(), 0);
        x.hang(1);
        Due.is("one sign", x.readings(), 1);
        x.hang(2);
        Due.is("the longer one, to the end", x.readings(), 1);
        x.hang(2);
        Due.is("one cloth too many", x.readings(), 0);
        WashLine y = Edge.book(1111);
        Edge.hangTimes(y, 0, 12);
        Due.is("three of four", y.readings(), 1);
        y.take();
        Due.is("11 cloths", y.readings(), 0);
        WashLine z = Edge.book(111, 11, 1, 1111);
        Edge.hangTimes(z, 0, 12);
        Due.is("many", z.readings(), 1490);
    }

    private static void reads(WashLine x, int... signs) {
        Due.is("how many", x.reads(0, NONE), signs.length);
        for (int i = 0; i < signs.length; i++) {
            Due.is("reads(0, " + i + ")", x.reads(0, i), signs[i]);
        }
        Due.is("its end", x.reads(0, signs.length), NONE);
    }

    private static WashLine reader(int[] rows, int cloths, String law) {
        WashLine x = Edge.book(rows);
        x.ship(0, 0, 0);
        Edge.hangTimes(x, 0, cloths);
        if (!law.isEmpty()) {
            Edge.force(x, law);
        }
        return x;
    }

    private static void weighsLeast() {
        reads(reader(new int[] {1, 11, 111}, 3, ""), 0, 0, 0);
        reads(reader(new int[] {111, 11, 1}, 3, ""), 0);
        reads(reader(new int[] {11, 111, 1}, 3, ""), 0, 2);
        reads(reader(new int[] {1, 11, 111}, 3, "weighs 1"), 2);
        reads(reader(new int[] {1, 11, 111}, 3, "weighs 4 - long"), 2);
        reads(reader(new int[] {1, 11, 111}, 3, "weighs long*long"), 0, 0, 0);
        reads(reader(new int[] {1, 11, 111}, 3, "weighs 0"), 0, 0, 0);
        reads(reader(new int[] {1, 11}, 3, "weighs 5 if long=2; weighs 6 if long=1"), 0, 1);
        reads(reader(new int[] {11, 1}, 3, "weighs 5 if long=2; weighs 6 if long=1"), 0, 1);
        // 99 and 99 are more than 100 would be: 500 is 99, and 99 twice is 198.
        reads(reader(new int[] {1, 11}, 2, "weighs 60 if long=1; weighs 500 if long=2"), 1);
        reads(reader(new int[] {1, 11}, 2, "weighs 49 if long=1; weighs 500 if long=2"), 0, 0);
        WashLine most = reader(new int[] {1}, 12, "weighs 100");
        Due.is("12 times 99", most.compare(0, 0), 1188);
        reads(most, 0, 0, 0, 0, 0, 0, 0, 0, 0, 0, 0, 0);
    }

    private static void barred() {
        WashLine x = Edge.oneOrder(12, 0, 5, 0, "bars");
        Due.is("it is read", x.sail(0), 1);
        Edge.ship("barred from all", x, 0, 12, 0, 5);
        for (int order = 0; order < 6; order++) {
            WashLine y = Edge.oneOrder(12, 0, 5, order, "bars if means = " + order);
            y.sail(0);
            Edge.ship("barred from " + order, y, 0, 12, 0, 5);
        }
        WashLine z = Edge.oneOrder(12, 0, 5, 0, "bars if means = 1");
        z.sail(0);
        Due.is("barred from another one", z.of(0, 0), 17);
    }

    private static void edge() {
        int[] start = {0, 0, 20, 4};
        int[] step = {5, 1, -5, -1};
        for (int way = 0; way < 4; way++) {
            for (int from = 0; from < 5; from++) {
                for (int goes = 0; goes < 5; goes++) {
                    int cell = start[way] + from * step[way];
                    int due = start[way] + Math.min(4, from + goes) * step[way];
                    WashLine x = Edge.oneOrder(cell, way, 0, 0, "goes " + goes);
                    String what = goes + " from " + cell + " the way " + way;
                    Due.is(what + ", where", x.where(0, 0), due);
                    Due.is(what + ", sail", x.sail(0), 1);
                    Due.is(what, x.of(0, 0), due);
                }
            }
        }
    }

    private static void turns() {
        int[] turn = {3, 1, 2};
        for (int order = 1; order < 4; order++) {
            for (int way = 0; way < 4; way++) {
                WashLine x = Edge.oneOrder(12, way, 5, order, "");
                x.sail(0);
                Edge.ship("order " + order + " from " + way, x, 0, 12, (way + turn[order - 1]) % 4, 5);
            }
        }
    }

    private static void fires() {
        for (int powder = 0; powder < 10; powder++) {
            WashLine x = Edge.oneOrder(12, 1, powder, 4, "");
            x.sail(0);
            Edge.ship("fire with " + powder, x, 0, 12, 1, Math.max(0, powder - 1));
        }
        WashLine x = Edge.oneOrder(12, 1, 2, 4, "");
        Edge.hangTimes(x, 0, 11);
        x.sail(0);
        Edge.ship("12 times with 2", x, 0, 12, 1, 0);
    }

    private static void days() {
        WashLine x = new WashLine();
        Due.is("pass()", x.pass(), 1);
        x.terms(0, 998);
        Due.is("pass()", x.pass(), 999);
        Edge.refused(x, "pass() on day 999", WashLine::pass, -3);
        Due.is("undo()", x.undo(), 3);
        Due.is("day", x.count(13), 998);
        WashLine y = Edge.oneOrder(0, 0, 0, 5, "");
        y.terms(0, 999);
        Due.is("to sail on day 999", y.sail(0), 1);
        Due.is("no day passes by it", y.count(13), 999);
    }

    private static void plan(WashLine x, int cell, int cloths, int... signs) {
        Due.is("plan to " + cell, x.plan(0, cell, NONE), cloths);
        for (int i = 0; i < signs.length; i++) {
            Due.is("plan to " + cell + ", sign " + i, x.plan(0, cell, i), signs[i]);
        }
        Due.is("plan to " + cell + ", its end", x.plan(0, cell, signs.length), NONE);
    }

    private static void plans() {
        WashLine x = new WashLine();
        x.ship(12, 0, 0);
        plan(x, 12, 0);
        plan(x, 17, NONE);
        x.sign(11, 0);
        plan(x, 17, 2, 0);
        plan(x, 22, 4, 0, 0);
        plan(x, 7, NONE);
        x.sign(1, 0);
        plan(x, 17, 1, 1);
        x.sign(2, 0);
        plan(x, 22, 2, 1, 1);
        x.sign(444, 3);
        plan(x, 2, 5, 3, 1, 1);
        x.sign(3, 1);
        x.sign(4, 2);
        // Left and ahead to 11; to 7 both left left ahead and right right ahead: the first row.
        plan(x, 11, 2, 4, 1);
        plan(x, 7, 3, 4, 4, 1);
        // Ahead and then aside is the same as aside first: sign 1 is ahead of the signs 4, 5.
        plan(x, 16, 3, 1, 4, 1);
        plan(x, 18, 3, 1, 5, 1);
        WashLine y = new WashLine();
        y.ship(0, 0, 9);
        y.sign(1111, 4);
        y.sign(2222, 0);
        Edge.force(y, "goes 0 if powder > 0");
        plan(y, 5, 40, 0, 0, 0, 0, 0, 0, 0, 0, 0, 1);
        plan(y, 20, 52, 0, 0, 0, 0, 0, 0, 0, 0, 0, 1, 1, 1, 1);
        plan(y, 1, NONE);
        Edge.force(y, "goes 0 if powder > 0; bars if powder = 1");
        plan(y, 5, NONE);
        Edge.force(y, "bars if means = 0");
        plan(y, 5, NONE);
        Edge.force(y, "bars if means = 0 and powder > 7; bars if means = 4 and powder < 8");
        plan(y, 10, 16, 0, 0, 1, 1);
        WashLine z = Edge.book(1111, 111, 22, 21, 2222);
        z.sign(3, 2);
        z.sign(33, 1);
        z.sign(333, 3);
        z.ship(24, 0, 0);
        plan(z, 24, 0);
        plan(z, 19, 4, 5, 5, 2);
        plan(z, 23, 4, 6, 2);
        plan(z, 18, 7, 5, 5, 2, 5, 2);
    }

    private static void mended(WashLine x, int cloths, int... signs) {
        Due.is("mended(NONE)", x.mended(NONE), cloths);
        for (int i = 0; i < signs.length; i++) {
            Due.is("mended(" + i + ")", x.mended(i), signs[i]);
        }
        Due.is("its end", x.mended(signs.length), NONE);
    }

    private static void mends() {
        WashLine x = new WashLine();
        mended(x, 0);
        x.hang(0);
        mended(x, NONE);
        x.sign(22, 0);
        mended(x, NONE);
        x.hang(1);
        mended(x, 1, 0);
        x.sign(21, 0);
        mended(x, 1, 0);
        x.sign(1, 0);
        mended(x, 1, 0);
        x.sign(4, 0);
        x.sign(3, 0);
        mended(x, 1, 0);
        x.sign(2, 0);
        mended(x, 0, 2, 5);
        WashLine y = Edge.book(1111, 2);
        Edge.hangTimes(y, 3, 12);
        mended(y, 12, 0, 0, 0);
        WashLine z = Edge.book(12, 1);
        Edge.hang(z, 0, 0);
        mended(z, 0, 1, 1);
        z.take();
        z.hang(2);
        mended(z, 1, 0);
    }

    private static void twofold() {
        Due.is("no signs", new WashLine().twofold(), NONE);
        Due.is("one", Edge.book(1111).twofold(), NONE);
        Due.is("two that go together", Edge.book(1, 11).twofold(), 2);
        Due.is("1 and 1111", Edge.book(1, 1111).twofold(), 4);
        Due.is("11 and 111", Edge.book(11, 111).twofold(), 5);
        Due.is("111 and 1111", Edge.book(111, 1111).twofold(), 7);
        Due.is("4 and 4444", Edge.book(4, 4444).twofold(), 4);
        Due.is("444 and 4444", Edge.book(444, 4444).twofold(), 7);
        Due.is("2221 2 and 2 2 2 12, not a longer one", Edge.book(12, 2221, 2211, 2).twofold(), 5);
        Due.is("112 1 and 1 1 21, not a longer one", Edge.book(112, 1, 1122, 21).twofold(), 4);
        Due.is("one the beginning of another one, but none has two", Edge.book(1, 12, 22).twofold(), NONE);
        Due.is("1 2222 .. is never as long as 12 2222 ..", Edge.book(1, 12, 2222).twofold(), NONE);
        Due.is("1 2 and 12", Edge.book(1, 12, 22, 2).twofold(), 2);
        Due.is("1 21 and 12 1", Edge.book(1, 12, 21, 4).twofold(), 3);
        int[] rows = {3231, 3133, 2212, 1232, 312, 2323, 323};
        WashLine x = Edge.book(rows);
        Due.is("longer than a line has cloths", x.twofold(), 18);
        Edge.hangTimes(x, 0, 12);
        Due.is("whatever hangs", x.twofold(), 18);
    }

    private static void struck(int many, int bits, int... rows) {
        WashLine x = Edge.book(rows);
        Due.is("how many of " + Arrays.toString(rows), x.struck(0), many);
        Due.is("which of " + Arrays.toString(rows), x.struck(1), bits);
    }

    private static void struckSigns() {
        struck(0, 0);
        struck(0, 0, 1);
        struck(0, 0, 1, 2, 3, 4, 4);
        struck(0, 0, 1, 12, 22);
        struck(1, 1, 1, 11);
        struck(1, 1, 1, 2, 12);
        struck(2, 6, 3, 1, 11, 111);
        struck(1, 4, 2, 3, 1, 12, 13);
        struck(6, 0x77, 1, 11, 111, 1111, 2, 22, 222, 2222);
        WashLine x = Edge.book(1, 11, 111, 1111, 2, 22, 222);
        for (int k = 0; k < 9; k++) {
            Due.is("each time", x.struck(1), 0x37);
        }
        x = Edge.book(1, 11, 111, 1111);
        for (int k = 0; k < 40; k++) {
            Due.is("each time", x.struck(0), 3);
        }
        x.sign(234, 0);
        x.sign(2, 0);
        x.sign(34, 0);
        Due.is("some more signs", x.struck(0), 4);
        Due.is("some more signs", x.struck(1), 0x17);
    }

    private static void rows() {
        WashLine x = new WashLine();
        Due.is("no cloths: the row of no signs", x.rows(0), 1);
        for (int n = 1; n <= 20; n++) {
            Due.is("no signs", x.rows(n), 0);
        }
        WashLine y = Edge.book(1, 2, 3, 4, 11, 22, 33, 44);
        long[] due = new long[21];
        due[0] = 1;
        due[1] = 4;
        for (int n = 2; n < 21; n++) {
            due[n] = 4 * due[n - 1] + 4 * due[n - 2];
        }
        for (int n = 20; n >= 0; n--) {
            Due.is("rows(" + n + ")", y.rows(n), due[n]);
        }
        Due.holds("more than an int", due[20] > MAX);
        WashLine z = Edge.book(1111, 222);
        int[] few = {1, 0, 0, 1, 1, 0, 1, 2, 1, 1, 3};
        for (int n = 0; n < few.length; n++) {
            Due.is("by fours and threes, " + n, z.rows(n), few[n]);
        }
    }

    private static void fitting() {
        WashLine x = new WashLine();
        x.sign(1, 0);
        x.sign(11, 4);
        x.sign(111, 0);
        Edge.hangTimes(x, 0, 3);
        Due.is("none was done: all", x.fits(), 4);
        x.seen(0);
        Due.is("0", x.fits(), 3);
        x.seen(0);
        Due.is("0 0", x.fits(), 1);
        x.seen(0);
        Due.is("0 0 0: the whole reading", x.fits(), 1);
        x.seen(0);
        Due.is("0 0 0 0: more than it has", x.fits(), 0);
        x.forget();
        x.seen(4);
        Due.is("4", x.fits(), 1);
        x.seen(4);
        Due.is("4 4", x.fits(), 0);
        x.forget();
        x.seen(5);
        Due.is("an order that no sign means", x.fits(), 0);
        Edge.hangTimes(x, 3, 1);
        x.forget();
        Due.is("no reading", x.fits(), 0);
        WashLine y = new WashLine();
        Due.is("no cloths", y.fits(), 1);
        y.seen(0);
        Due.is("no cloths, but one was done", y.fits(), 0);
    }

    private static void few() {
        WashLine x = new WashLine();
        long whole = 1000000000000L;
        Due.is("of none", x.few(1, 0), whole);
        Due.is("fewer than there are", x.few(4, 3), whole - whole / 8 + whole / 8);
        Due.is("fewer than one of one", x.few(1, 1), whole / 2);
        x.terms(1, 0);
        Due.is("none dries", x.few(1, 99), whole);
        x.terms(1, 10);
        Due.is("all dry, one more", x.few(20, 19), whole);
        Due.is("all dry", x.few(20, 20), 0);
        Due.is("all dry", x.few(1, 99), 0);
        x.terms(1, 3);
        Due.is("nothing is cut yet", x.few(1, 12), 13841287201L);
        Due.is("9688901040.7", x.few(1, 13), 9688901040L);
        // 49828633923.6 and 4152386160.3, ahead of which 9688901040.7 stand.
        Due.is("two more parts", x.few(2, 13), 49828633923L + 4152386160L + 9688901040L);
        x.terms(1, 4);
        // 10448555212.8 and 870712934.4, ahead of which 1306069401.6 stand.
        Due.is("parts of .8 and .4", x.few(2, 13), 10448555212L + 870712934L + 1306069401L);
        x.terms(1, 9);
        Due.is("1 of 1,000,000,000,000", x.few(1, 12), 1);
        Due.is("cut to nothing", x.few(1, 13), 0);
    }

    private static void compared() {
        WashLine x = Edge.ordinary("weighs 7");
        Edge.hang(x, 0, 1, 0);
        Due.is("none: as long as they are", x.compare(NONE, 0), 3);
        Due.is("that in force", x.compare(0, 0), 14);
        Due.law(x, "bars");
        Due.is("one without weighs", x.compare(1, 0), 3);
        Due.law(x, "weighs 1000");
        Due.is("99 at most", x.compare(2, 0), 198);
        Due.law(x, "weighs 0 - 1");
        Due.is("0 at least", x.compare(3, 0), 0);
        Due.is("that in force stays", x.count(12), 0);
    }

    private static void meetings() {
        WashLine x = Edge.ordinary();
        Due.is("one ship", x.meetings(NONE), 0);
        x.ship(0, 1, 0);
        Due.is("two in one cell", x.meetings(NONE), 1);
        Due.is("0 and 1", x.meetings(0), 1);
        x.ship(0, 3, 9);
        int[] twos = {1, 2, 12};
        Due.is("three in one cell", x.meetings(NONE), 3);
        for (int i = 0; i < 3; i++) {
            Due.is("meetings(" + i + ")", x.meetings(i), twos[i]);
        }
        Due.is("meetings(3)", x.meetings(3), NONE);
        x.hang(0);
        Due.is("apart", x.meetings(NONE), 0);
        Due.is("none", x.meetings(0), NONE);
        WashLine y = Edge.ordinary();
        y.ship(24, 0, 0);
        y.ship(5, 0, 0);
        y.hang(0);
        Due.is("each does what it reads: not where another one is now", y.meetings(NONE), 0);
        WashLine z = Edge.ordinary();
        z.ship(24, 0, 0);
        z.ship(10, 2, 0);
        z.hang(0);
        Due.is("0 and 2 in cell 5", z.meetings(0), 2);
        z.hang(3);
        Due.is("no reading", z.meetings(NONE), 0);
        Due.is("no reading", z.meetings(0), NONE);
    }

    public static void main(String[] args) throws IOException {
        Path root = Path.of(args[0]);
        Edge.open(root, "I. CLOTHS", "II. TEXTS");
        Edge.is("CLOTHS 0 .. 3.", TermsEdgeTest::cloths);
        Edge.is("The LINE: a row of 12 CLOTHS at most (none at first).", TermsEdgeTest::line);
        Edge.is("SIGNS 0 .. 7 (8 at most)", TermsEdgeTest::eightSigns);
        Edge.is("a row of 1 .. 4 CLOTHS (LONG;", TermsEdgeTest::longSigns);
        Edge.is("no two SIGNS the same row)", TermsEdgeTest::sameRow);
        Edge.is("MEANS an ORDER: 0 AHEAD, 1 LEFT, 2 RIGHT, 3 ABOUT, 4 FIRE, 5 WAIT.", TermsEdgeTest::orders);
        Edge.is("SHIPS 0 .. 2 (3 at most)", TermsEdgeTest::threeShips);
        Edge.is("a CELL 0 .. 24 (5 times y and x; x, y 0 .. 4)", TermsEdgeTest::cells);
        Edge.is("FACES a WAY 0 up (y one more), 1 right (x one more), 2 down, 3 left", TermsEdgeTest::ways);
        Edge.is("POWDER 0 .. 9.", TermsEdgeTest::powder);
        Edge.is("DONE, 6 at most: ORDERS a ship nobody knows did, one behind the other.", TermsEdgeTest::done);
        Edge.is("TERMS: 0 DAY 0 .. 999 (0 at first), 1 DRY 0 .. 10 (5), 2 MOOD 0 .. 9 (0).", TermsEdgeTest::terms);
        Edge.is("The first of these in that order.", TermsEdgeTest::firstOfThese);

        Edge.open(root, "III. To HANG", "IV. MONTHS");
        Edge.is("it is the last one of the LINE (12 at most). To TAKE: the last CLOTH is off.", TermsEdgeTest::lastOne);
        Edge.is("the CLOTHS of which, one behind the other, are just the LINE", TermsEdgeTest::justTheLine);
        Edge.is("(of a LINE without CLOTHS: one, no SIGNS)", TermsEdgeTest::noCloths);
        Edge.is("the SIGNS of which WEIGH least together; the first as a row of SIGNS.", TermsEdgeTest::weighsLeast);
        Edge.is("an ORDER it is BARRED from is none;", TermsEdgeTest::barred);
        Edge.is("it GOES so many CELLS the WAY it FACES, to the edge at most", TermsEdgeTest::edge);
        Edge.is("it FACES the WAY one less, one more (modulo 4), ABOUT two more", TermsEdgeTest::turns);
        Edge.is("FIRE: POWDER is one less, if it has any;", TermsEdgeTest::fires);
        Edge.is("A DAY passes (DAY below 999).", TermsEdgeTest::days);
        Edge.is("twos of SHIPS that would be in one CELL, if each did what it READS.", TermsEdgeTest::meetings);
        Edge.is("(done as read so) brings it there; the first such row.", TermsEdgeTest::plans);
        Edge.is("so that the LINE has a READING; the first such READING as a row.", TermsEdgeTest::mends);
        Edge.is("of a LINE (of any length) that has two READINGS or more", TermsEdgeTest::twofold);
        Edge.is("the fewest SIGNS without which no LINE has two; the lowest as bits.", TermsEdgeTest::struckSigns);
        Edge.is("how many rows of SIGNS have n CLOTHS together.", TermsEdgeTest::rows);
        Edge.is("READINGS of the LINE the ORDERS of which begin as DONE tells (all of DONE).", TermsEdgeTest::fitting);
        Edge.is("fewer than k do: each part is cut.", TermsEdgeTest::few);
        Edge.is("by a LAW in place of that in FORCE (NONE: none).", TermsEdgeTest::compared);
        Due.finish("TermsEdgeTest");
    }
}
