import java.io.IOException;
import java.nio.file.Path;

/** The edges that the promises 1 to 42 name, promise by promise and sentence by sentence. */
public final class CallsEdgeTest {
    private static final int NONE = Edge.NONE;
    private static final int MAX = Edge.MAX;
    private static final int MIN = Edge.MIN;
    private static final int[] OFF = {-2, -1, MAX, MIN};

    private static Path root;

    private CallsEdgeTest() { }

    private static void promise(int number) throws IOException {
        Edge.open(root, "Promise " + number + ":", number == 42 ? "Not promised" : "Promise " + (number + 1) + ":");
    }

    // ---- 1

    private static void newObject() {
        WashLine x = new WashLine();
        int[] counts = {0, 0, 0, 0, 0, 0, 0, 0, 0, 0, 0, 0, NONE, 0, 5, 0};
        for (int what = 0; what < counts.length; what++) {
            Due.is("count(" + what + ")", x.count(what), counts[what]);
        }
        Due.is("line(0)", x.line(0), NONE);
        Due.is("readings()", x.readings(), 1);
        Due.is("fits()", x.fits(), 1);
        Due.is("at(0, 0)", x.at(0, 0), NONE);
        Due.is("of(0, 0)", x.of(0, 0), NONE);
        Due.is("asks(0, 0, 1)", x.asks(0, 0, 1), NONE);
        Due.is("reads(0, NONE)", x.reads(0, NONE), NONE);
        Due.is("where(0, 0)", x.where(0, 0), NONE);
        Due.is("meetings(NONE)", x.meetings(NONE), 0);
        Due.is("plan(0, 0, NONE)", x.plan(0, 0, NONE), NONE);
        Due.is("mended(NONE)", x.mended(NONE), 0);
        Due.is("twofold()", x.twofold(), NONE);
        Due.is("struck(0)", x.struck(0), 0);
        Due.is("rows(0)", x.rows(0), 1);
        Due.is("few(1, 1)", x.few(1, 1), 500000000000L);
        Due.is("compare(NONE, 0)", x.compare(NONE, 0), NONE);
        Due.is("drawn(0, 0)", x.drawn(0, 0), NONE);
        Due.is("soap()", x.soap(), 0);
        Due.is("fault()", x.fault(), NONE);
        Due.is("stopped()", x.stopped(), NONE);
        Due.is("status()", x.status(), 0);
        Due.is("end(0)", x.end(0), 0);
        Due.is("end(1)", x.end(1), NONE);
        Due.is("forget()", x.forget(), 0);
        Due.is("undo()", x.undo(), -3);
        Due.is("another object is another one", new WashLine().count(9), 0);
    }

    // ---- 2, 3

    private static void digits() {
        WashLine x = new WashLine();
        int[] wrong = {0, 5, 9, 10, 15, 20, 40, 50, 51, 100, 101, 105, 110, 150, 400, 411 + 100, 1000, 1001, 1010, 1011,
            1100, 1101, 1110, 1115, 1151, 1511, 4445, 4450, 4500, 5000, 5111, 9999, 10000, 10001, 11111, 41111,
            111111, 1111111111, -1, -11, -1111, MAX, MIN, 2147480000 + 1111};
        for (int cloths : wrong) {
            Due.is("sign(" + cloths + ", 0)", x.sign(cloths, 0), -1);
        }
        Due.is("refused", x.count(7), wrong.length);
        Due.is("none came", x.count(0), 0);
        int number = 0;
        for (int size = 1; size <= 4; size++) {
            number = number * 10 + 1;
            Due.is("the lowest of " + size, x.sign(number, 0), 2 * size - 2);
            Due.is("the highest of " + size, x.sign(number * 4, 0), 2 * size - 1);
            Due.is("how long", x.at(2 * size - 1, 0), size);
            Due.is("the last cloth", x.at(2 * size - 1, 1 + size), 3);
            Due.is("the last cloth", x.at(2 * size - 2, 1 + size), 0);
        }
        WashLine y = Edge.book(1234);
        for (int k = 0; k < 4; k++) {
            Due.is("the first one the highest", y.at(0, 2 + k), k);
        }
    }

    private static void signMeans() {
        for (int wrong : new int[] {-1, 6, 7, 256, MAX, MIN}) {
            WashLine x = new WashLine();
            for (int means = 0; means < 6; means++) {
                Due.is("sign", x.sign(11 + means % 4 + 10 * (means / 4), means), means);
            }
            Edge.refused(x, "sign(3, " + wrong + ")", y -> y.sign(3, wrong), -1);
            Edge.refused(new WashLine(), "sign(3, " + wrong + ")", y -> y.sign(3, wrong), -1);
        }
    }

    private static void anotherSign() {
        WashLine x = Edge.book(1, 1111, 43);
        for (int row : new int[] {1, 1111, 43}) {
            for (int means : new int[] {0, 5}) {
                Edge.refused(x, "sign(" + row + ", " + means + ")", y -> y.sign(row, means), -3);
                x = Edge.book(1, 1111, 43);
            }
        }
        for (int row : new int[] {11, 111, 4, 3, 34}) {
            Due.holds("another row", x.sign(row, 0) >= 0);
        }
    }

    private static void noRoomForSigns() {
        WashLine x = Edge.book(1, 2, 3, 4, 11, 22, 33);
        Due.is("the eighth", x.sign(44, 0), 7);
        Edge.refused(x, "a ninth", y -> y.sign(12, 0), -5);
        x.image(0);
        x.back(0);
        Due.is("still full", x.sign(12, 0), -5);
    }

    private static void atNotSoMany() {
        WashLine x = new WashLine();
        int[] rows = {3, 31, 312, 3124};
        for (int sign = 0; sign < 4; sign++) {
            x.sign(rows[sign], sign);
            Due.is("how long", x.at(sign, 0), sign + 1);
            Due.is("what it means", x.at(sign, 1), sign);
            int[] due = {2, 0, 1, 3};
            for (int k = 0; k < 4; k++) {
                Due.is("at(" + sign + ", " + (2 + k) + ")", x.at(sign, 2 + k), k <= sign ? due[k] : NONE);
            }
            Due.is("at(" + sign + ", 6)", x.at(sign, 6), NONE);
        }
    }

    private static void atNone() {
        WashLine x = Edge.book(1, 2222);
        Due.is("at(2, 0)", x.at(2, 0), NONE);
        Due.is("at(8, 0)", x.at(8, 0), NONE);
        for (int off : OFF) {
            Due.is("at(" + off + ", 0)", x.at(off, 0), NONE);
            Due.is("at(1, " + off + ")", x.at(1, off), NONE);
        }
        Due.is("at(1, 6)", x.at(1, 6), NONE);
        Due.is("at(1, 7)", x.at(1, 7), NONE);
        Due.is("that is no refusal", x.count(7), 0);
    }

    // ---- 4, 5

    private static void shipNumber() {
        WashLine x = new WashLine();
        int[][] wrong = {{-1, 0, 0}, {25, 0, 0}, {0, -1, 0}, {0, 4, 0}, {0, 0, -1}, {0, 0, 10}, {MAX, 0, 0}, {0, MAX, 0},
            {0, 0, MAX}, {MIN, 0, 0}, {0, MIN, 0}, {0, 0, MIN}};
        for (int[] w : wrong) {
            Due.is("ship(" + w[0] + ", " + w[1] + ", " + w[2] + ")", x.ship(w[0], w[1], w[2]), -1);
            Due.is("none came", x.count(1), 0);
        }
        Due.is("refused", x.count(7), wrong.length);
        Due.is("the lowest", x.ship(0, 0, 0), 0);
        Due.is("the highest", x.ship(24, 3, 9), 1);
        Edge.ship("the lowest", x, 0, 0, 0, 0);
        Edge.ship("the highest", x, 1, 24, 3, 9);
        Due.is("one in the same cell", x.ship(24, 3, 9), 2);
        Edge.refused(x, "a fourth", y -> y.ship(1, 1, 1), -5);
    }

    private static void ofNone() {
        WashLine x = new WashLine();
        Due.is("no ships", x.of(0, 0), NONE);
        x.ship(24, 3, 9);
        x.ship(5, 1, 0);
        int[][] due = {{24, 3, 9}, {5, 1, 0}, {NONE, NONE, NONE}, {NONE, NONE, NONE}};
        for (int ship = 0; ship < 4; ship++) {
            for (int what = 0; what < 3; what++) {
                Due.is("of(" + ship + ", " + what + ")", x.of(ship, what), due[ship][what]);
            }
        }
        for (int off : OFF) {
            Due.is("of(" + off + ", 0)", x.of(off, 0), NONE);
            Due.is("of(0, " + off + ")", x.of(0, off), NONE);
        }
        Due.is("of(0, 3)", x.of(0, 3), NONE);
    }

    // ---- 6, 7, 8

    private static void asksAside() {
        WashLine x = Edge.ordinary("goes 3 + means");
        for (int k : new int[] {0, 3, 4, 6, 8, -1, -2, MAX, MIN}) {
            Due.is("asks(0, " + k + ", 1)", x.asks(0, k, 1), 3);
        }
        WashLine y = new WashLine();
        y.ship(0, 0, 0);
        Due.is("without signs", y.asks(0, 0, 1), 1);
        Due.is("without signs", y.asks(0, 5, 2), 0);
        Due.is("without signs", y.asks(0, 0, 0), NONE);
    }

    private static void asksBarred() {
        for (int order = 0; order < 6; order++) {
            WashLine x = Edge.ordinary("bars if means = " + order);
            for (int k = 0; k < 6; k++) {
                Due.is("barred from " + order + ": " + k, x.asks(0, k, 2), k == order ? 1 : 0);
            }
        }
    }

    private static void asksNone() {
        WashLine x = Edge.ordinary("weighs 7; bars");
        Due.is("asks(0, 3, 0)", x.asks(0, 3, 0), 7);
        Due.is("asks(0, 4, 0)", x.asks(0, 4, 0), NONE);
        Due.is("asks(0, 5, 2)", x.asks(0, 5, 2), 1);
        Due.is("asks(0, 6, 2)", x.asks(0, 6, 2), NONE);
        Due.is("asks(0, 0, 3)", x.asks(0, 0, 3), NONE);
        for (int off : OFF) {
            Due.is("asks(0, " + off + ", 0)", x.asks(0, off, 0), NONE);
            Due.is("asks(0, " + off + ", 2)", x.asks(0, off, 2), NONE);
            Due.is("asks(0, 0, " + off + ")", x.asks(0, 0, off), NONE);
            for (int what = 0; what < 3; what++) {
                Due.is("asks(" + off + ", 0, " + what + ")", x.asks(off, 0, what), NONE);
            }
        }
        for (int what = 0; what < 3; what++) {
            Due.is("asks(1, 0, " + what + ")", x.asks(1, 0, what), NONE);
        }
    }

    private static void lineNone() {
        WashLine x = new WashLine();
        Due.is("no cloths", x.line(0), NONE);
        for (int k = 0; k < 12; k++) {
            Due.is("not yet", x.line(k), NONE);
            x.hang(3 - k % 4);
            Due.is("line(" + k + ")", x.line(k), 3 - k % 4);
            Due.is("line(0)", x.line(0), 3);
        }
        Due.is("line(12)", x.line(12), NONE);
        Due.is("line(32)", x.line(32), NONE);
        for (int off : OFF) {
            Due.is("line(" + off + ")", x.line(off), NONE);
        }
        x.take();
        Due.is("taken", x.line(11), NONE);
    }

    private static void termsWrong() {
        int[] most = {999, 10, 9};
        for (int what = 0; what < 3; what++) {
            WashLine x = new WashLine();
            int first = what == 1 ? 5 : 0;
            Due.is("what it was", x.terms(what, most[what]), first);
            Due.is("what it was", x.terms(what, most[what]), most[what]);
            int of = what;
            Edge.refused(x, "one more", y -> y.terms(of, most[of] + 1), -1);
            Edge.refused(x, "-1", y -> y.terms(of, -1), -1);
            Due.is("what it was", x.terms(what, 0), most[what]);
            Due.is("the others", x.count(13) + x.count(14) + x.count(15), what == 1 ? 0 : 5);
            for (int off : new int[] {-1, 3, MAX, MIN}) {
                Due.is("terms(" + off + ", 0)", x.terms(off, 0), -1);
                Due.is("terms(" + what + ", " + off + ")", x.terms(what, off), off == 3 ? 0 : -1);
                x.terms(what, 0);
            }
        }
    }

    // ---- 9, 10

    private static void highestFirst() {
        WashLine x = new WashLine();
        x.feed(0x67_6f_65_73, 0x20_31_2b_31, 0x20_69_66_20, 0x64_61_79_3d, 0x30_20_20_20);
        Due.is("goes 1+1 if day=0", x.law(), 0);
        x.ship(0, 0, 0);
        x.force(0);
        Due.is("goes", x.asks(0, 0, 1), 2);
        x.feed(0x05_01_02_03, 0x04_ff_ff_ff, 0xff_ff_80_00, 0x00_00_00_7f, 0x04_00_00_00);
        Due.is("one sign, three soaps", x.row(), 1);
        Due.is("soap()", x.soap(), 3);
        Due.is("what it means", x.at(0, 1), 5);
        Due.is("its last cloth", x.at(0, 5), 3);
    }

    private static void feedFull() {
        WashLine x = new WashLine();
        for (int k = 1; k <= 20; k++) {
            Due.is("feed", x.feed(MAX, MIN, -1, 0, 1), 20 * k);
            Due.is("count(6)", x.count(6), 20 * k);
        }
        for (int n : new int[] {400, 399, 390, 381}) {
            x.end(n);
            Due.is("behind " + n, x.feed(0, 0, 0, 0, 0), NONE);
            Due.is("count(6)", x.count(6), n);
        }
        Due.is("that is no refusal", x.count(7) + x.count(10) + x.count(11), 0);
        x.end(380);
        Due.is("behind 380", x.feed(0, 0, 0, 0, 0), 400);
        x.end(1);
        Due.is("behind 1", x.feed(0, 0, 0, 0, 0), 21);
    }

    private static void endNone() {
        WashLine x = new WashLine();
        Due.is("end(0) of none", x.end(0), 0);
        Due.is("end(1) of none", x.end(1), NONE);
        x.feed(0, 0, 0, 0, 0);
        Due.is("end(21)", x.end(21), NONE);
        Due.is("end(-1)", x.end(-1), NONE);
        Due.is("end(MIN)", x.end(MIN), NONE);
        Due.is("end(MAX)", x.end(MAX), NONE);
        Due.is("all stay", x.count(6), 20);
        Due.is("end(20)", x.end(20), 20);
        Due.is("end(19)", x.end(19), 19);
        Due.is("end(20)", x.end(20), NONE);
        Due.is("end(0)", x.end(0), 0);
        Due.is("count(6)", x.count(6), 0);
        Due.is("that is no refusal", x.count(7), 0);
        Due.is("status()", x.status(), 0);
        // What was cut off does not come back.
        x.feed(0x62617273, 0x20696620, 0x313d3120, 0x20202020, 0x20202020);
        x.end(4);
        Due.is("its first four bytes alone", x.law(), 0);
        x.ship(0, 0, 0);
        x.force(0);
        Due.is("bars", x.asks(0, 0, 2), 1);
    }

    // ---- 11, 12

    private static void rowEmpty() {
        WashLine x = new WashLine();
        Edge.refused(x, "row() of a new object", WashLine::row, -6);
        x.feed(0, 0, 0, 0, 0);
        x.end(0);
        Edge.refused(x, "row() of an empty tape", WashLine::row, -6);
        Due.is("soap()", x.soap(), 0);
        Due.is("row()", Edge.row(x, 0, 1, 0, 0, 0), 1);
        Edge.refused(x, "row() behind a row()", WashLine::row, -6);
        Due.law(x, "bars");
        Edge.refused(x, "row() behind a law()", WashLine::row, -6);
    }

    private static void rowEmpties() {
        WashLine x = new WashLine();
        Due.is("one that came", Edge.row(x, 0, 1, 0, 0, 0), 1);
        Due.is("count(6)", x.count(6), 0);
        Due.is("one that did not", Edge.row(x, 0), 0);
        Due.is("count(6)", x.count(6), 0);
        Due.is("feed", x.feed(0, 0, 0, 0, 0), 20);
        Due.is("four soaps", x.row(), 0);
        Due.is("soap()", x.soap(), 4);
        Due.is("count(6)", x.count(6), 0);
    }

    private static void soapNotRefused() {
        WashLine x = new WashLine();
        Due.is("ahead of any", x.soap(), 0);
        x.row();
        Due.is("of a refused one", x.soap(), 0);
        Edge.row(x, 0, 0, 0, 0, 0, 0);
        Due.is("two", x.soap(), 2);
        x.row();
        Due.is("behind a refused one", x.soap(), 2);
        x.sign(1, 9);
        Due.law(x, "bars bars");
        Due.is("behind other calls", x.soap(), 2);
        Edge.row(x, 0, 1, 0, 0, 0);
        Due.is("none", x.soap(), 0);
    }

    // ---- 13 to 16

    private static void lawNoRoom() {
        WashLine x = new WashLine();
        Due.law(x, "bars bars");
        Due.is("fault()", x.fault(), 5);
        for (int k = 0; k < 5; k++) {
            Due.is("law", Due.law(x, "bars"), k);
        }
        Due.is("refused, not the sixth", Due.law(x, "bars 1"), -6);
        Due.is("the sixth", Due.law(x, "goes 2"), 5);
        for (String text : new String[] {"bars", "bars bars", "", "   "}) {
            Due.put(x, text);
            Due.is("a seventh", x.law(), -5);
            Due.is("status()", x.status(), -5);
            Due.is("the tape is empty then, too", x.count(6), 0);
            Due.is("ahead of reading it", x.fault(), NONE);
        }
        Due.is("count(10)", x.count(10), 4);
        Due.is("count(11)", x.count(11), 2);
        Due.is("count(4)", x.count(4), 6);
        WashLine y = new WashLine();
        y.image(0);
        for (int k = 0; k < 6; k++) {
            Due.law(y, "bars");
        }
        y.back(0);
        Due.is("room again", Due.law(y, "goes 1"), 0);
        Due.is("count(4)", y.count(4), 1);
        Due.is("force(1)", y.force(1), -2);
    }

    private static void blanksAlone() {
        WashLine x = new WashLine();
        for (int n : new int[] {0, 1, 2, 19, 20, 399, 400}) {
            Due.is("law() of " + n + " blanks", Due.law(x, " ".repeat(n)), -6);
            Due.is("fault() at the end", x.fault(), n);
            Due.is("status()", x.status(), -6);
            Due.is("count(6)", x.count(6), 0);
            Due.is("orders() of " + n + " blanks", Due.orders(x, " ".repeat(n)), -6);
            Due.is("fault() at the end", x.fault(), n);
            Due.is("stopped()", x.stopped(), NONE);
        }
        Due.is("count(4)", x.count(4), 0);
        Due.is("count(11)", x.count(11), 14);
    }

    private static void ordersRefused() {
        WashLine x = new WashLine();
        Due.is("-3", Due.orders(x, "take"), -3);
        Due.is("status()", x.status(), -3);
        Due.is("the tape is empty then", x.count(6), 0);
        Due.is("-6", Due.orders(x, "take it"), -6);
        Due.is("status()", x.status(), -6);
        Due.is("the tape is empty then", x.count(6), 0);
        Due.is("none is run", Due.orders(x, "pass if 1=2"), 0);
        Due.is("status()", x.status(), 0);
        Due.is("one of -6 runs nothing", Due.orders(x, "pass; pass; pas"), -6);
        Due.is("day", x.count(13), 0);
        Due.is("of laws no matter how many", x.count(4), 0);
        for (int k = 0; k < 6; k++) {
            Due.law(x, "bars");
        }
        Due.is("run, whatever laws there are", Due.orders(x, "pass times 2"), 2);
        Due.is("-3", x.count(9), 1);
        Due.is("-6", x.count(11), 2);
    }

    private static void faultPlaces() {
        WashLine x = new WashLine();
        Due.is("ahead of any", x.fault(), NONE);
        Due.law(x, " 1");
        Due.is("of a law", x.fault(), 1);
        Due.orders(x, "take");
        Due.is("of orders that were read, but can't be", x.fault(), NONE);
        Due.orders(x, "  hang");
        Due.is("of orders", x.fault(), 6);
        x.row();
        Edge.row(x, 1);
        x.take();
        x.image(0);
        x.back(0);
        Due.is("of no other call", x.fault(), 6);
        Due.law(x, "bars");
        Due.is("none", x.fault(), NONE);
        Due.orders(x, "1");
        Due.is("at 0", x.fault(), 0);
        Due.orders(x, "pass");
        Due.is("none", x.fault(), NONE);
    }

    private static void stoppedNone() {
        WashLine x = new WashLine();
        Due.is("ahead of any", x.stopped(), NONE);
        Due.orders(x, "pass; take");
        Due.is("the second", x.stopped(), 1);
        Due.orders(x, "pass");
        Due.is("that was done", x.stopped(), NONE);
        Due.orders(x, "take");
        Due.is("the first", x.stopped(), 0);
        Due.orders(x, "pass pass");
        Due.is("refused by -6", x.stopped(), NONE);
        Due.orders(x, "pass times 3; pass if 1=2; pass; take; pass");
        Due.is("the fourth", x.stopped(), 3);
        Due.law(x, "bars 1");
        x.take();
        x.undo();
        x.row();
        Due.is("of no other call", x.stopped(), 3);
        x.orders();
        Due.is("an empty tape", x.stopped(), NONE);
    }

    // ---- 17 to 22

    private static void forceNone() {
        WashLine x = Edge.ordinary();
        Due.is("none was", x.force(NONE), NONE);
        Due.is("status()", x.status(), 0);
        Edge.refused(x, "force(0) without laws", y -> y.force(0), -2);
        Due.law(x, "bars");
        Due.law(x, "goes 2");
        Due.is("none was", x.force(1), NONE);
        Due.is("status()", x.status(), 0);
        Due.is("1 was", x.force(0), 1);
        Due.is("0 was", x.force(0), 0);
        Edge.refused(x, "force(2)", y -> y.force(2), -2);
        for (int off : new int[] {-2, 6, MAX, MIN}) {
            Due.is("force(" + off + ")", x.force(off), -2);
        }
        Due.is("0 is still", x.force(NONE), 0);
        Due.is("none is", x.count(12), NONE);
        Due.is("none was", x.force(NONE), NONE);
    }

    private static void hangTwelve() {
        WashLine x = new WashLine();
        Edge.refused(x, "hang(4)", y -> y.hang(4), -1);
        Edge.refused(x, "hang(-1)", y -> y.hang(-1), -1);
        for (int k = 0; k < 12; k++) {
            Due.is("how many there are then", x.hang(k % 4), k + 1);
            Due.is("status()", x.status(), 0);
        }
        Edge.refused(x, "a thirteenth", y -> y.hang(3), -3);
        Due.is("the last one stays", x.take(), 3);
        Due.is("again the twelfth", x.hang(0), 12);
        Due.is("which", x.take(), 0);
    }

    private static void takeNone() {
        WashLine x = new WashLine();
        Edge.refused(x, "take() of none", WashLine::take, -3);
        for (int cloth = 0; cloth < 4; cloth++) {
            x.hang(cloth);
            Due.is("which it was", x.take(), cloth);
            Due.is("status()", x.status(), 0);
        }
        Edge.refused(x, "take() of none", WashLine::take, -3);
        x.undo();
        Due.is("the one that hangs again", x.take(), 3);
    }

    private static void sailRefused() {
        WashLine x = new WashLine();
        x.sign(1, 0);
        Edge.refused(x, "sail(0) without ships", y -> y.sail(0), -2);
        x.ship(0, 0, 0);
        Due.is("no cloths: no signs", x.sail(0), 0);
        Due.is("status()", x.status(), 0);
        Edge.refused(x, "sail(1)", y -> y.sail(1), -2);
        for (int off : OFF) {
            Due.is("sail(" + off + ")", x.sail(off), -2);
        }
        x.hang(1);
        Edge.refused(x, "no reading", y -> y.sail(0), -3);
        Due.is("no ship and no reading", x.sail(1), -2);
        x.take();
        Edge.hangTimes(x, 0, 12);
        Due.is("twelve signs", x.sail(0), 12);
        Edge.ship("to the edge", x, 0, 20, 0, 0);
        Due.is("the cloths stay", x.count(2), 12);
    }

    private static void passLast() {
        WashLine x = new WashLine();
        Due.is("its number", x.pass(), 1);
        x.terms(0, 997);
        Due.is("its number", x.pass(), 998);
        Due.is("its number", x.pass(), 999);
        Edge.refused(x, "pass()", WashLine::pass, -3);
        x.terms(0, 0);
        Due.is("its number", x.pass(), 1);
    }

    private static void undoSixteen() {
        WashLine x = new WashLine();
        for (int k = 1; k <= 40; k++) {
            x.pass();
            Due.is("count(5)", x.count(5), Math.min(k, 16));
        }
        for (int k = 15; k >= 0; k--) {
            Due.is("undo()", x.undo(), 3);
            Due.is("count(5)", x.count(5), k);
        }
        Edge.refused(x, "undo()", WashLine::undo, -3);
        Due.is("the 24th stays", x.count(13), 24);
        WashLine y = Edge.ordinary();
        y.hang(0);
        for (int k = 0; k < 15; k++) {
            y.pass();
        }
        Due.is("the hang is the 16th", y.count(5), 16);
        y.image(0);
        for (int k = 0; k < 15; k++) {
            y.undo();
        }
        Due.is("the hang", y.undo(), 0);
        Due.is("count(2)", y.count(2), 0);
        y.hang(0);
        for (int k = 0; k < 16; k++) {
            y.pass();
        }
        for (int k = 0; k < 16; k++) {
            Due.is("a pass", y.undo(), 3);
        }
        Due.is("the hang is the 17th", y.undo(), -3);
        Due.is("count(2)", y.count(2), 1);
    }

    private static void undoByOrders() {
        WashLine x = Edge.ordinary();
        Due.is("orders", Due.orders(x, "hang 0; hang 1; sail 0; pass; take; hang 3"), 6);
        Due.is("count(5)", x.count(5), 6);
        int[] kinds = {0, 1, 3, 2, 0, 0};
        for (int kind : kinds) {
            Due.is("undo()", x.undo(), kind);
        }
        Due.is("undo()", x.undo(), -3);
        Edge.ship("as it was", x, 0, 0, 0, 3);
        Due.is("count(2)", x.count(2), 0);
        Due.is("count(13)", x.count(13), 0);
        Due.is("20 times", Due.orders(x, "pass times 20"), 20);
        Due.is("16 are kept", x.count(5), 16);
        x.hang(0);
        Due.is("the latest", x.undo(), 0);
        Due.is("15 are left", x.count(5), 15);
        Due.orders(x, "pass; take");
        Due.is("orders that can't be", x.count(5), 15);
        Due.is("not run", Due.orders(x, "pass if 1=2"), 0);
        Due.is("orders that were not run", x.count(5), 15);
    }

    private static void undoAhead() {
        WashLine x = Edge.ordinary();
        x.hang(0);
        Due.is("refused", x.ship(25, 0, 0), -1);
        Due.is("refused", x.terms(0, 1000), -1);
        Due.is("refused", x.terms(3, 0), -1);
        Due.is("can be undone", x.count(5), 1);
        x.ship(0, 0, 0);
        Due.is("ahead of a ship()", x.count(5), 0);
        Edge.refused(x, "undo()", WashLine::undo, -3);
        x.ship(0, 0, 0);
        x.hang(1);
        Due.is("refused by -5", x.ship(0, 0, 0), -5);
        Due.is("can be undone", x.undo(), 0);
        Due.is("no more", x.undo(), -3);
        for (int what = 0; what < 3; what++) {
            x.pass();
            x.terms(what, what == 1 ? 5 : 0);
            Due.is("ahead of a terms()", x.undo(), -3);
        }
        Due.is("the line", x.count(2), 1);
        x.pass();
        x.sign(44, 0);
        x.seen(1);
        x.forget();
        Due.law(x, "bars");
        x.force(0);
        x.months(1, 1);
        x.image(0);
        Edge.row(x, 0, 4, 4, 4, 0);
        x.take();
        x.hang(7);
        x.undo();
        Due.is("other calls leave what can be undone", x.undo(), 3);
        Due.is("no more", x.undo(), -3);
    }

    private static void undoWhole() {
        WashLine x = Edge.ordinary();
        x.ship(24, 2, 9);
        Edge.hang(x, 0, 1, 0, 1);
        x.sail(1);
        x.sail(0);
        x.take();
        Due.is("the take", x.undo(), 1);
        Due.is("the cloth", x.line(3), 1);
        Due.is("the sail of ship 0", x.undo(), 2);
        Edge.ship("ship 0", x, 0, 0, 0, 3);
        Due.is("ship 1 stays", x.of(1, 0), 18);
        Due.is("the sail of ship 1", x.undo(), 2);
        Edge.ship("ship 1", x, 1, 24, 2, 9);
        for (int k = 0; k < 4; k++) {
            Due.is("a hang", x.undo(), 0);
        }
        Due.is("count(2)", x.count(2), 0);
        for (int cell : new int[] {0, 24}) {
            for (int way = 0; way < 4; way++) {
                for (int powder : new int[] {0, 9}) {
                    WashLine y = Edge.oneOrder(cell, way, powder, powder == 9 ? 4 : 2, "");
                    y.sail(0);
                    Due.is("undo()", y.undo(), 2);
                    Edge.ship("as it was", y, 0, cell, way, powder);
                }
            }
        }
        Edge.hangTimes(x, 3, 12);
        x.take();
        Due.is("a take from twelve", x.undo(), 1);
        Due.is("twelve again", x.count(2), 12);
        Due.is("a thirteenth", x.hang(0), -3);
    }

    // ---- 23 to 31

    private static void readsNone() {
        WashLine x = Edge.ordinary();
        Edge.hang(x, 0, 1);
        int[] due = {0, 1, NONE};
        Due.is("how many", x.reads(0, NONE), 2);
        for (int i = 0; i < 3; i++) {
            Due.is("reads(0, " + i + ")", x.reads(0, i), due[i]);
        }
        for (int off : new int[] {-2, 12, 13, MAX, MIN}) {
            Due.is("reads(0, " + off + ")", x.reads(0, off), NONE);
        }
        for (int off : new int[] {-1, 1, 3, MAX, MIN}) {
            Due.is("reads(" + off + ", NONE)", x.reads(off, NONE), NONE);
            Due.is("reads(" + off + ", 0)", x.reads(off, 0), NONE);
        }
        x.hang(3);
        Due.is("there is no reading", x.reads(0, NONE), NONE);
        Due.is("there is no reading", x.reads(0, 0), NONE);
        WashLine y = Edge.book(1);
        y.ship(0, 0, 0);
        Edge.hangTimes(y, 0, 12);
        Due.is("twelve", y.reads(0, NONE), 12);
        Due.is("the last", y.reads(0, 11), 0);
        Due.is("behind it", y.reads(0, 12), NONE);
    }

    private static void whereNone() {
        WashLine x = Edge.ordinary();
        Edge.hang(x, 0, 1, 0);
        int[] due = {6, 1, 3};
        for (int what = 0; what < 3; what++) {
            Due.is("where(0, " + what + ")", x.where(0, what), due[what]);
            for (int off : new int[] {-1, 1, 3, MAX, MIN}) {
                Due.is("where(" + off + ", " + what + ")", x.where(off, what), NONE);
            }
        }
        for (int off : new int[] {-2, -1, 3, MAX, MIN}) {
            Due.is("where(0, " + off + ")", x.where(0, off), NONE);
        }
        Edge.ship("it has not sailed", x, 0, 0, 0, 3);
        x.hang(3);
        for (int what = 0; what < 3; what++) {
            Due.is("there is no reading", x.where(0, what), NONE);
        }
    }

    private static void meetingsNone() {
        WashLine x = new WashLine();
        Due.is("no ships", x.meetings(NONE), 0);
        Due.is("no ships", x.meetings(0), NONE);
        x.ship(3, 0, 0);
        Due.is("one", x.meetings(NONE), 0);
        x.ship(4, 0, 0);
        x.ship(3, 1, 9);
        Due.is("two of three", x.meetings(NONE), 1);
        Due.is("0 and 2", x.meetings(0), 2);
        for (int off : new int[] {1, 2, 3, -2, MAX, MIN}) {
            Due.is("meetings(" + off + ")", x.meetings(off), NONE);
        }
        x.hang(0);
        Due.is("there is no reading", x.meetings(NONE), 0);
        Due.is("there is no reading", x.meetings(0), NONE);
        WashLine y = new WashLine();
        for (int k = 0; k < 3; k++) {
            y.ship(8, k, k);
        }
        int[] twos = {1, 2, 12};
        Due.is("three", y.meetings(NONE), 3);
        for (int i = 0; i < 3; i++) {
            Due.is("rising", y.meetings(i), twos[i]);
        }
        Due.is("meetings(3)", y.meetings(3), NONE);
        WashLine z = new WashLine();
        for (int k = 0; k < 3; k++) {
            z.ship(k == 0 ? 0 : 8, 0, 0);
        }
        Due.is("1 and 2", z.meetings(0), 12);
    }

    private static void planNone() {
        WashLine x = Edge.ordinary();
        Due.is("where it is", x.plan(0, 0, NONE), 0);
        Due.is("no sign", x.plan(0, 0, 0), NONE);
        Due.is("to 6", x.plan(0, 6, NONE), 3);
        int[] due = {0, 1, 0, NONE, NONE};
        for (int i = 0; i < due.length; i++) {
            Due.is("plan(0, 6, " + i + ")", x.plan(0, 6, i), due[i]);
        }
        for (int off : new int[] {-2, 40, 1000, MAX, MIN}) {
            Due.is("plan(0, 6, " + off + ")", x.plan(0, 6, off), NONE);
        }
        for (int off : new int[] {-1, 25, MAX, MIN}) {
            Due.is("plan(0, " + off + ", NONE)", x.plan(0, off, NONE), NONE);
            Due.is("plan(0, " + off + ", 0)", x.plan(0, off, 0), NONE);
        }
        for (int off : new int[] {-1, 1, 3, MAX, MIN}) {
            Due.is("plan(" + off + ", 6, NONE)", x.plan(off, 6, NONE), NONE);
        }
        Due.is("the highest cell", x.plan(0, 24, NONE), 9);
        Edge.force(x, "bars if means = 2");
        Due.is("it can't be", x.plan(0, 6, NONE), NONE);
        Due.is("it can't be", x.plan(0, 6, 0), NONE);
        Due.is("up it can", x.plan(0, 20, NONE), 4);
        Edge.force(x, "goes 0");
        Due.is("it can't be", x.plan(0, 20, NONE), NONE);
        Due.is("where it is", x.plan(0, 0, NONE), 0);
    }

    private static void mendedNone() {
        WashLine x = Edge.book(123, 44);
        Due.is("no cloths", x.mended(NONE), 0);
        Due.is("no signs", x.mended(0), NONE);
        x.hang(3);
        Due.is("one cloth: it can't be", x.mended(NONE), NONE);
        Due.is("one cloth: it can't be", x.mended(0), NONE);
        x.hang(3);
        Due.is("nothing to mend", x.mended(NONE), 0);
        Due.is("sign 1", x.mended(0), 1);
        Edge.hang(x, 3, 3, 3);
        Due.is("the first such reading", x.mended(NONE), 3);
        Due.is("sign 0", x.mended(0), 0);
        Due.is("sign 1", x.mended(1), 1);
        for (int off : new int[] {2, 12, -2, MAX, MIN}) {
            Due.is("mended(" + off + ")", x.mended(off), NONE);
        }
        Edge.hangTimes(x, 3, 7);
        Due.is("twelve", x.mended(NONE), 0);
        Due.is("the sixth", x.mended(5), 1);
        Due.is("behind it", x.mended(6), NONE);
        WashLine y = Edge.book(1);
        Edge.hangTimes(y, 1, 12);
        Due.is("all twelve", y.mended(NONE), 12);
        Due.is("the twelfth sign", y.mended(11), 0);
        Due.is("behind it", y.mended(12), NONE);
    }

    private static void twofoldNone() {
        Due.is("no signs", new WashLine().twofold(), NONE);
        Due.is("one sign", Edge.book(12).twofold(), NONE);
        Due.is("eight as long as one another", Edge.book(11, 12, 13, 14, 21, 22, 23, 24).twofold(), NONE);
        Due.is("none begins another one", Edge.book(1, 21, 221, 2221).twofold(), NONE);
        Due.is("none ends another one", Edge.book(1, 12, 122, 1222).twofold(), NONE);
        Due.is("two", Edge.book(1, 2, 12).twofold(), 2);
    }

    private static void struckNone() {
        WashLine x = Edge.book(1, 2, 12);
        Due.is("how many", x.struck(0), 1);
        Due.is("which", x.struck(1), 1);
        for (int off : new int[] {2, 3, -1, -2, MAX, MIN}) {
            Due.is("struck(" + off + ")", x.struck(off), NONE);
        }
        Due.is("signs stay", x.count(0), 3);
        Due.is("none to strike", Edge.book(1, 2).struck(0), 0);
        Due.is("none to strike", Edge.book(1, 2).struck(1), 0);
        Due.is("no signs", new WashLine().struck(1), 0);
        Due.is("no signs", new WashLine().struck(2), NONE);
    }

    private static void rowsNone() {
        WashLine x = Edge.book(1);
        Due.is("rows(0)", x.rows(0), 1);
        Due.is("rows(20)", x.rows(20), 1);
        for (int off : new int[] {-1, 21, MAX, MIN}) {
            Due.is("rows(" + off + ")", x.rows(off), NONE);
        }
        WashLine y = Edge.book(1, 2, 3, 4);
        Due.is("4 to the 20th", y.rows(20), 1L << 40);
    }

    // ---- 32 to 38

    private static void seenRefused() {
        WashLine x = new WashLine();
        for (int off : new int[] {-1, 6, MAX, MIN}) {
            Edge.refused(x, "seen(" + off + ")", y -> y.seen(off), -1);
        }
        for (int k = 0; k < 6; k++) {
            Due.is("how often there was", x.seen(5 - k), k + 1);
        }
        Edge.refused(x, "a seventh", y -> y.seen(0), -5);
        Due.is("a seventh that can't be", x.seen(6), -1);
        Due.is("forget()", x.forget(), 6);
        Due.is("room again", x.seen(0), 1);
    }

    private static void forgetNothing() {
        WashLine x = Edge.ordinary();
        Due.is("of none", x.forget(), 0);
        for (int k = 0; k < 6; k++) {
            x.seen(k);
        }
        Due.is("of six", x.forget(), 6);
        Due.is("of none", x.forget(), 0);
        Due.is("count(3)", x.count(3), 0);
        Due.is("fits(): all", x.fits(), 1);
    }

    private static void fewNone() {
        WashLine x = new WashLine();
        for (int off : new int[] {0, 21, -1, MAX, MIN}) {
            Due.is("few(" + off + ", 1)", x.few(off, 1), NONE);
        }
        for (int off : new int[] {-1, 100, MAX, MIN}) {
            Due.is("few(1, " + off + ")", x.few(1, off), NONE);
        }
        Due.is("few(1, 0)", x.few(1, 0), 1000000000000L);
        Due.is("few(20, 0)", x.few(20, 0), 1000000000000L);
        Due.is("few(20, 19)", x.few(20, 19) / 1000, 999999999);
        Due.holds("few(20, 99)", x.few(20, 99) >= 0 && x.few(20, 99) < 1000);
        Due.is("few(1, 99)", x.few(1, 99), 0);
        x.terms(1, 1);
        Due.holds("few(20, 99) of one in ten", x.few(20, 99) > 990000000000L);
    }

    private static void compareNone() {
        WashLine x = Edge.ordinary();
        Edge.hang(x, 0, 1);
        Due.is("none", x.compare(NONE, 0), 2);
        Due.is("no such law", x.compare(0, 0), NONE);
        Due.law(x, "weighs 3");
        Due.is("one not in force", x.compare(0, 0), 3);
        Due.is("no such law", x.compare(1, 0), NONE);
        for (int off : new int[] {-2, 6, MAX, MIN}) {
            Due.is("compare(" + off + ", 0)", x.compare(off, 0), NONE);
        }
        for (int off : new int[] {-1, 1, 3, MAX, MIN}) {
            Due.is("compare(0, " + off + ")", x.compare(0, off), NONE);
            Due.is("compare(NONE, " + off + ")", x.compare(NONE, off), NONE);
        }
        x.hang(3);
        Due.is("there is no reading", x.compare(0, 0), NONE);
        Due.is("there is no reading", x.compare(NONE, 0), NONE);
        Due.is("that is no refusal", x.count(8), 0);
    }

    private static void monthsRefused() {
        WashLine x = Edge.book(1, 2, 3, 4);
        Edge.refused(x, "months() without ships", y -> y.months(0, 1), -3);
        Edge.refused(x, "months(-1, 1) without ships", y -> y.months(-1, 1), -1);
        x.ship(0, 0, 0);
        int[][] wrong = {{-1, 1}, {1000001, 1}, {0, 0}, {0, 61}, {MAX, 1}, {MIN, 1}, {0, MAX}, {0, MIN}};
        for (int[] w : wrong) {
            Due.is("months(" + w[0] + ", " + w[1] + ")", x.months(w[0], w[1]), -1);
            Due.is("status()", x.status(), -1);
        }
        Due.is("nothing was drawn", x.drawn(0, 0), NONE);
        Due.is("months(0, 1)", x.months(0, 1), 1);
        Due.is("months(1000000, 60)", x.months(1000000, 60), 60);
        Due.is("status()", x.status(), 0);
        int cell = x.drawn(0, 0);
        Due.is("to the edge", cell, 20);
        x.months(0, 0);
        x.months(-1, 1);
        Due.is("the latest stay", x.drawn(0, 0), 20);
        Edge.ship("on paper", x, 0, 0, 0, 0);
    }

    private static void drawnNone() {
        WashLine x = Edge.book(1, 2, 3, 4);
        x.ship(12, 1, 9);
        Due.is("ahead of any", x.drawn(0, 0), NONE);
        x.months(0, 1);
        int[] due = {13, 1, 9};
        for (int what = 0; what < 3; what++) {
            Due.is("drawn(0, " + what + ")", x.drawn(0, what), due[what]);
            for (int off : new int[] {-1, 1, 3, MAX, MIN}) {
                Due.is("drawn(" + off + ", " + what + ")", x.drawn(off, what), NONE);
            }
        }
        for (int off : new int[] {-2, -1, 3, MAX, MIN}) {
            Due.is("drawn(0, " + off + ")", x.drawn(0, off), NONE);
        }
        x.ship(0, 0, 0);
        Due.is("a ship that came behind them", x.drawn(1, 0), NONE);
        x.sail(0);
        x.hang(0);
        x.sail(0);
        Due.is("behind the months", x.drawn(0, 0), 13);
    }

    // ---- 39 to 42

    private static void imageRefused() {
        WashLine x = Edge.ordinary();
        for (int off : new int[] {-1, 2, MAX, MIN}) {
            Edge.refused(x, "image(" + off + ")", y -> y.image(off), -1);
        }
        Due.is("image(0)", x.image(0), 0);
        Due.is("image(1)", x.image(1), 0);
        Due.is("image(1) again", x.image(1), 0);
        Due.is("status()", x.status(), 0);
    }

    private static void backRefused() {
        WashLine x = Edge.ordinary();
        x.hang(0);
        for (int off : new int[] {-1, 2, MAX, MIN}) {
            Due.is("back(" + off + ")", x.back(off), -1);
            Due.is("status()", x.status(), -1);
        }
        Edge.refused(x, "back(0)", y -> y.back(0), -2);
        x.image(1);
        Due.is("back(0)", x.back(0), -2);
        Due.is("count(8)", x.count(8), 2);
        x.hang(0);
        Due.is("back(1)", x.back(1), 0);
        Due.is("status()", x.status(), 0);
        Due.is("count(2)", x.count(2), 1);
        Due.is("back(1) again", x.back(1), 0);
        WashLine y = Edge.book(1);
        y.image(0);
        Due.is("the other one", y.back(1), -2);
        Due.is("that one", y.back(0), 0);
    }

    private static void counts() {
        WashLine x = Edge.book(1, 2, 3);
        x.ship(0, 0, 0);
        x.ship(0, 0, 0);
        Edge.hang(x, 0, 1, 0, 1);
        for (int k = 0; k < 5; k++) {
            x.seen(k);
        }
        for (int k = 0; k < 6; k++) {
            Due.law(x, "bars");
        }
        x.force(5);
        x.terms(0, 31);
        x.terms(1, 7);
        x.terms(2, 8);
        x.take();
        x.pass();
        x.pass();
        x.feed(0, 0, 0, 0, 0);
        x.end(19);
        int[] due = {3, 2, 3, 5, 6, 3, 19, 0, 0, 0, 0, 0, 5, 33, 7, 8};
        for (int what = 0; what < due.length; what++) {
            Due.is("count(" + what + ")", x.count(what), due[what]);
        }
        for (int off : new int[] {-1, 16, 17, MAX, MIN}) {
            Due.is("count(" + off + ")", x.count(off), NONE);
        }
    }

    /** Calls refused by each number, so many of each: 2 by -1, 3 by -2, 4 by -3, 5 by -5, 6 by -6. */
    private static void refusals() {
        WashLine x = Edge.ordinary();
        for (int k = 0; k < 6; k++) {
            x.seen(0);
            Due.law(x, "bars");
        }
        x.image(0);
        x.hang(4);
        x.months(0, 0);
        x.force(6);
        x.sail(1);
        x.back(1);
        for (int k = 0; k < 2; k++) {
            x.take();
            x.undo();
        }
        for (int k = 0; k < 5; k++) {
            if (k < 2) {
                x.seen(1);
            } else {
                x.law();
            }
        }
        for (int k = 0; k < 3; k++) {
            x.row();
            x.orders();
        }
        for (int by = 0; by < 5; by++) {
            Due.is("count(" + (7 + by) + ")", x.count(7 + by), 2 + by);
        }
        Due.is("back(0)", x.back(0), 0);
        for (int by = 0; by < 5; by++) {
            Due.is("images do not keep that, count(" + (7 + by) + ")", x.count(7 + by), 2 + by);
        }
    }

    private static void status() {
        WashLine x = new WashLine();
        Due.is("ahead of any", x.status(), 0);
        told(x, "sign", x.sign(5, 0), -1);
        told(x, "sign", x.sign(1, 0), 0);
        told(x, "sign", x.sign(1, 0), -3);
        told(x, "ship", x.ship(0, 0, 0), 0);
        told(x, "ship", x.ship(25, 0, 0), -1);
        told(x, "terms", x.terms(0, 0), 0);
        told(x, "terms", x.terms(3, 0), -1);
        told(x, "hang", x.hang(0), 0);
        told(x, "row", x.row(), -6);
        told(x, "row", Edge.row(x, 0), 0);
        told(x, "law", x.law(), -6);
        told(x, "law", Due.law(x, "bars"), 0);
        told(x, "orders", Due.orders(x, "take times 9"), -3);
        told(x, "orders", Due.orders(x, "take"), 0);
        told(x, "orders", x.orders(), -6);
        told(x, "force", x.force(0), 0);
        told(x, "force", x.force(1), -2);
        told(x, "undo", x.undo(), 0);
        told(x, "take", x.take(), 0);
        told(x, "take", x.take(), -3);
        told(x, "sail", x.sail(0), 0);
        told(x, "sail", x.sail(1), -2);
        told(x, "pass", x.pass(), 0);
        x.terms(0, 999);
        told(x, "pass", x.pass(), -3);
        told(x, "seen", x.seen(0), 0);
        told(x, "seen", x.seen(6), -1);
        told(x, "months", x.months(0, 1), 0);
        told(x, "months", x.months(0, 0), -1);
        told(x, "image", x.image(0), 0);
        told(x, "undo", x.undo(), -3);
        told(x, "back", x.back(0), 0);
        told(x, "image", x.image(2), -1);
        told(x, "hang", x.hang(1), 0);
        told(x, "back", x.back(1), -2);
        told(x, "hang", x.hang(4), -1);
        for (int k = 0; k < 6; k++) {
            Due.law(x, "bars");
        }
        told(x, "law", Due.law(x, "bars"), -5);
    }

    private static void told(WashLine x, String call, int answer, int by) {
        Due.is(call + ": the answer", Math.min(0, answer), call.equals("force") && by == 0 ? NONE : by);
        Due.is(call + ": status()", x.status(), by);
    }

    /** No other call changes status(), whether it answers NONE or not. */
    private static void otherCalls() {
        for (int by : new int[] {0, -2}) {
            WashLine x = Edge.ordinary();
            x.hang(0);
            if (by != 0) {
                x.sail(1);
            }
            for (int n : new int[] {0, -1, 99}) {
                x.at(n, n);
                x.of(n, n);
                x.asks(n, n, n);
                x.line(n);
                x.feed(n, n, n, n, n);
                x.end(n);
                x.soap();
                x.fault();
                x.stopped();
                x.readings();
                x.reads(n, n);
                x.where(n, n);
                x.meetings(n);
                x.plan(n, n, n);
                x.mended(n);
                x.twofold();
                x.struck(n);
                x.rows(n);
                x.forget();
                x.fits();
                x.few(n, n);
                x.compare(n, n);
                x.drawn(n, n);
                x.count(n);
                Due.is("status()", x.status(), by);
            }
            Due.is("nor how many were refused", x.count(7) + x.count(8) + x.count(9) + x.count(10) + x.count(11), by == 0 ? 0 : 1);
        }
    }

    private static void promises1to22() throws IOException {
        promise(1);
        Edge.is("A line without cloths.", CallsEdgeTest::newObject);
        promise(2);
        Edge.is("each as a digit 1 more than it (1 .. 4), the first one the highest: its number. -1;", CallsEdgeTest::digits);
        Edge.is("-1;", CallsEdgeTest::signMeans);
        Edge.is("-3 another SIGN is that row;", CallsEdgeTest::anotherSign);
        Edge.is("-5.", CallsEdgeTest::noRoomForSigns);
        promise(3);
        Edge.is("the CLOTH at k 0 .. 3 (2 + k; NONE: not so many).", CallsEdgeTest::atNotSoMany);
        Edge.is("NONE.", CallsEdgeTest::atNone);
        promise(4);
        Edge.is("A SHIP: its number. -1; -5.", CallsEdgeTest::shipNumber);
        promise(5);
        Edge.is("POWDER (2). NONE.", CallsEdgeTest::ofNone);
        promise(6);
        Edge.is("how far it would GO AHEAD now (1; k aside)", CallsEdgeTest::asksAside);
        Edge.is("whether BARRED from ORDER k 0 .. 5 (2: 1, 0).", CallsEdgeTest::asksBarred);
        Edge.is("NONE.", CallsEdgeTest::asksNone);
        promise(7);
        Edge.is("The k-th CLOTH of the LINE. NONE.", CallsEdgeTest::lineNone);
        promise(8);
        Edge.is("A TERM: what it was. -1.", CallsEdgeTest::termsWrong);
        promise(9);
        Edge.is("four of each number, the highest first", CallsEdgeTest::highestFirst);
        Edge.is("NONE, if there would be more than 400.", CallsEdgeTest::feedFull);
        promise(10);
        Edge.is("NONE, if it has not so many, or n is below 0.", CallsEdgeTest::endNone);
        promise(11);
        Edge.is("-6 the TAPE is empty.", CallsEdgeTest::rowEmpty);
        Edge.is("A ROW, the TAPE is empty then", CallsEdgeTest::rowEmpties);
        promise(12);
        Edge.is("in the latest row() that was not REFUSED (0 ahead of any).", CallsEdgeTest::soapNotRefused);
        promise(13);
        Edge.is("-5 (ahead of reading it; the TAPE is empty then, too);", CallsEdgeTest::lawNoRoom);
        Edge.is("-6 (blanks alone: FAULT at the end).", CallsEdgeTest::blanksAlone);
        promise(14);
        Edge.is("how many were run. -3 one can't be; -6 (as for law()).", CallsEdgeTest::ordersRefused);
        promise(15);
        Edge.is("of the latest law(), orders() that read a TEXT: its place; NONE without.", CallsEdgeTest::faultPlaces);
        promise(16);
        Edge.is("NONE (that was done, or REFUSED by -6; ahead of any).", CallsEdgeTest::stoppedNone);
        promise(17);
        Edge.is("A LAW is in FORCE (NONE: none): which was. -2.", CallsEdgeTest::forceNone);
        promise(18);
        Edge.is("how many there are then. -1; -3 there are 12.", CallsEdgeTest::hangTwelve);
        promise(19);
        Edge.is("which it was. -3 there is none.", CallsEdgeTest::takeNone);
        promise(20);
        Edge.is("how many SIGNS it READ. -2; -3 there is no READING.", CallsEdgeTest::sailRefused);
        promise(21);
        Edge.is("A DAY: its number. -3.", CallsEdgeTest::passLast);
        promise(22);
        Edge.is("16 are kept", CallsEdgeTest::undoSixteen);
        Edge.is("(by ORDERS, too;", CallsEdgeTest::undoByOrders);
        Edge.is("-3 there is none (nothing that was ahead of a ship(), terms() that was not REFUSED can be undone).",
            CallsEdgeTest::undoAhead);
        Edge.is("is undone: 0 .. 3.", CallsEdgeTest::undoWhole);
    }

    private static void promises24to42() throws IOException {
        promise(24);
        Edge.is("NONE (there is no READING).", CallsEdgeTest::readsNone);
        promise(25);
        Edge.is("NONE (there is no READING).", CallsEdgeTest::whereNone);
        promise(26);
        Edge.is("NONE (others; there is no READING: 0 twos).", CallsEdgeTest::meetingsNone);
        promise(27);
        Edge.is("NONE (it can't be).", CallsEdgeTest::planNone);
        promise(28);
        Edge.is("NONE (it can't be).", CallsEdgeTest::mendedNone);
        promise(29);
        Edge.is("NONE (no LINE has two).", CallsEdgeTest::twofoldNone);
        promise(30);
        Edge.is("which, as bits (1). NONE.", CallsEdgeTest::struckNone);
        promise(31);
        Edge.is("ROWS of n CLOTHS 0 .. 20. NONE.", CallsEdgeTest::rowsNone);
        promise(32);
        Edge.is("how often there was. -1; -5.", CallsEdgeTest::seenRefused);
        promise(33);
        Edge.is("DONE is nothing then: how often there was.", CallsEdgeTest::forgetNothing);
        promise(35);
        Edge.is("FEW, k 1 .. 20, n 0 .. 99. NONE.", CallsEdgeTest::fewNone);
        promise(36);
        Edge.is("NONE (no such LAW, SHIP; there is no READING).", CallsEdgeTest::compareNone);
        promise(37);
        Edge.is("-1; -3 there are no SHIPS.", CallsEdgeTest::monthsRefused);
        promise(38);
        Edge.is("POWDER (2). NONE.", CallsEdgeTest::drawnNone);
        promise(39);
        Edge.is("IMAGE k is kept: 0; -1.", CallsEdgeTest::imageRefused);
        promise(40);
        Edge.is("-1; -2 it was not kept.", CallsEdgeTest::backRefused);
        promise(41);
        Edge.is("13 .. 15 TERMS 0 .. 2. NONE for others.", CallsEdgeTest::counts);
        Edge.is("how many calls were REFUSED by -1, -2, -3, -5, -6 (IMAGES do not keep that)", CallsEdgeTest::refusals);
        promise(42);
        Edge.is("0 if it was not, or ahead of any.", CallsEdgeTest::status);
        Edge.is("What the latest call of sign, ship, terms, row, law, orders, force, hang, take, sail, pass, undo, seen, months,"
            + " image, back was REFUSED by;", CallsEdgeTest::otherCalls);
    }

    public static void main(String[] args) throws IOException {
        root = Path.of(args[0]);
        promises1to22();
        promises24to42();
        Due.finish("CallsEdgeTest");
    }
}
