import java.util.ArrayList;
import java.util.Arrays;
import java.util.HashSet;
import java.util.List;
import java.util.Set;

/** Promise by promise: ordinary inputs, the edges that the document names, and wrong inputs. */
public final class PromiseTest {
    private static final int NONE = WashLine.NONE;
    private static final int FAR_OFF = Integer.MAX_VALUE;
    private static final int FAR_BELOW = Integer.MIN_VALUE;

    private PromiseTest() { }

    private static void p1() {
        WashLine x = new WashLine();
        int[] counts = {0, 0, 0, 0, 0, 0, 0, 0, 0, 0, 0, 0, NONE, 0, 5, 0};
        for (int what = 0; what < counts.length; what++) {
            Due.is("count(" + what + ")", x.count(what), counts[what]);
        }
        Due.is("status()", x.status(), 0);
        Due.is("fault()", x.fault(), NONE);
        Due.is("stopped()", x.stopped(), NONE);
        Due.is("soap()", x.soap(), 0);
        Due.is("readings()", x.readings(), 1);
        Due.is("line(0)", x.line(0), NONE);
        Due.is("NONE", NONE, -1);
    }

    private static void p2() {
        WashLine x = new WashLine();
        int[] wrong = {0, -1, 5, 10, 101, 110, 1050, 15, 51, 4445, 11111, FAR_OFF, FAR_BELOW, -12};
        for (int cloths : wrong) {
            Due.is("sign(" + cloths + ", 0)", x.sign(cloths, 0), -1);
        }
        Due.is("sign(1, -1)", x.sign(1, -1), -1);
        Due.is("sign(1, 6)", x.sign(1, 6), -1);
        Due.is("signs", x.count(0), 0);
        int[] good = {1, 4, 14, 41, 123, 444, 1111, 4444};
        for (int k = 0; k < good.length; k++) {
            Due.is("sign(" + good[k] + ")", x.sign(good[k], k % 6), k);
            Due.is("status()", x.status(), 0);
            Due.is("the same", x.sign(good[k], 5), -3);
        }
        Due.is("a ninth", x.sign(2, 0), -5);
        Due.is("-3 ahead of -5", x.sign(41, 0), -3);
        Due.is("-1 ahead of -3", x.sign(41, 6), -1);
        Due.is("count(10)", x.count(10), 1);
        x = new WashLine();
        Due.is("1", x.sign(1, 0), 0);
        Due.is("11 is another row", x.sign(11, 0), 1);
    }

    private static void p3() {
        WashLine x = new WashLine();
        x.sign(2, 5);
        x.sign(3142, 1);
        int[][] due = {{1, 5, 1, NONE, NONE, NONE}, {4, 1, 2, 0, 3, 1}};
        for (int sign = 0; sign < 2; sign++) {
            for (int what = 0; what < 6; what++) {
                Due.is("at(" + sign + ", " + what + ")", x.at(sign, what), due[sign][what]);
            }
        }
        for (int wrong : new int[] {-1, 6, FAR_OFF, FAR_BELOW}) {
            Due.is("at(1, " + wrong + ")", x.at(1, wrong), NONE);
            Due.is("at(" + wrong + ", 0)", x.at(wrong, 0), NONE);
        }
        Due.is("at(2, 0)", x.at(2, 0), NONE);
    }

    private static void p4() {
        WashLine x = new WashLine();
        int[][] wrong = {{-1, 0, 0}, {25, 0, 0}, {0, -1, 0}, {0, 4, 0}, {0, 0, -1}, {0, 0, 10}, {FAR_OFF, 0, 0}};
        for (int[] w : wrong) {
            Due.is("ship", x.ship(w[0], w[1], w[2]), -1);
        }
        Due.is("ship(24, 3, 9)", x.ship(24, 3, 9), 0);
        Due.is("ship(24, 3, 9)", x.ship(24, 3, 9), 1);
        Due.is("ship(0, 0, 0)", x.ship(0, 0, 0), 2);
        Due.is("a fourth", x.ship(0, 0, 0), -5);
        Due.is("-1 ahead of -5", x.ship(0, 0, 10), -1);
        Due.is("count(1)", x.count(1), 3);
    }

    private static void p5() {
        WashLine x = new WashLine();
        x.ship(24, 3, 9);
        x.ship(7, 2, 1);
        int[][] due = {{24, 3, 9, NONE}, {7, 2, 1, NONE}, {NONE, NONE, NONE, NONE}};
        for (int ship = 0; ship < 3; ship++) {
            for (int what = 0; what < 4; what++) {
                Due.is("of(" + ship + ", " + what + ")", x.of(ship, what), due[ship][what]);
            }
        }
        Due.is("of(-1, 0)", x.of(-1, 0), NONE);
        Due.is("of(0, -1)", x.of(0, -1), NONE);
    }

    private static void p6() {
        WashLine x = Edge.ordinary();
        Due.is("without a law: LONG", x.asks(0, 3, 0), 2);
        Due.is("without a law: 1", x.asks(0, -77, 1), 1);
        Due.is("without a law: not barred", x.asks(0, 5, 2), 0);
        x = Edge.ordinary("weighs sign*10+long if means>0; weighs 200 if sign=3; goes 9-cell; bars if means=4 and powder=3; bars if means=1");
        int[] weights = {1, 11, 22, 99};
        for (int k = 0; k < 4; k++) {
            Due.is("weighs " + k, x.asks(0, k, 0), weights[k]);
        }
        Due.is("goes", x.asks(0, 0, 1), 4);
        int[] barred = {0, 1, 0, 0, 1, 0};
        for (int k = 0; k < 6; k++) {
            Due.is("bars " + k, x.asks(0, k, 2), barred[k]);
        }
        Due.is("no such sign", x.asks(0, 4, 0), NONE);
        Due.is("no such sign", x.asks(0, -1, 0), NONE);
        Due.is("no such order", x.asks(0, 6, 2), NONE);
        Due.is("no such order", x.asks(0, -1, 2), NONE);
        Due.is("no such ship", x.asks(1, 0, 1), NONE);
        Due.is("no such ship", x.asks(-1, 0, 1), NONE);
        Due.is("no such question", x.asks(0, 0, 3), NONE);
        Due.is("no such question", x.asks(0, 0, -1), NONE);
        x = Edge.ordinary("weighs 0-5; goes 0-1");
        Due.is("the nearest", x.asks(0, 0, 0), 0);
        Due.is("the nearest", x.asks(0, 0, 1), 0);
        x = Edge.ordinary("weighs 7; weighs 8/0; weighs 9 if day>0; goes 3; goes 2 if 1/0=1; bars if 1%0=0");
        Due.is("the last that holds", x.asks(0, 0, 0), 7);
        Due.is("the last that holds", x.asks(0, 0, 1), 3);
        Due.is("broken: does not bar", x.asks(0, 0, 2), 0);
        x = Edge.ordinary("goes 3 if sign=0-1 and long=0-1 and means=0; bars if sign=0-1 and long=0-1");
        Due.is("sign, long -1", x.asks(0, 2, 1), 3);
        Due.is("sign, long -1", x.asks(0, 2, 2), 1);
        x = Edge.ordinary("weighs ship*50+cell+powder+day+mood+means");
        x.ship(20, 1, 4);
        x.terms(0, 7);
        x.terms(2, 3);
        Due.is("the words of a law", x.asks(1, 1, 0), 50 + 20 + 4 + 7 + 3 + 2);
        Due.is("the words of a law", x.asks(0, 1, 0), 3 + 7 + 3 + 2);
    }

    private static void p7() {
        WashLine x = new WashLine();
        Edge.hang(x, 3, 0, 2, 1, 1, 3, 0, 0, 2, 1, 3, 2);
        int[] due = {3, 0, 2, 1, 1, 3, 0, 0, 2, 1, 3, 2};
        for (int k = 0; k < 12; k++) {
            Due.is("line(" + k + ")", x.line(k), due[k]);
        }
        Due.is("line(12)", x.line(12), NONE);
        Due.is("line(-1)", x.line(-1), NONE);
        Due.is("line(MIN)", x.line(FAR_BELOW), NONE);
    }

    private static void p8() {
        WashLine x = new WashLine();
        int[] most = {999, 10, 9};
        int[] first = {0, 5, 0};
        for (int what = 0; what < 3; what++) {
            Due.is("terms(" + what + ")", x.terms(what, most[what]), first[what]);
            Due.is("terms(" + what + ")", x.terms(what, 0), most[what]);
            Due.is("too low", x.terms(what, -1), -1);
            Due.is("status()", x.status(), -1);
            Due.is("too high", x.terms(what, most[what] + 1), -1);
            Due.is("count", x.count(13 + what), 0);
        }
        Due.is("terms(3, 0)", x.terms(3, 0), -1);
        Due.is("terms(-1, 0)", x.terms(-1, 0), -1);
        Due.is("count(7)", x.count(7), 8);
    }

    private static void p9() {
        WashLine x = new WashLine();
        for (int k = 1; k <= 20; k++) {
            Due.is("feed", x.feed(k, 0, 0, 0, 0), 20 * k);
        }
        Due.is("feed beyond 400", x.feed(0, 0, 0, 0, 0), NONE);
        Due.is("count(6)", x.count(6), 400);
        Due.is("count(7): not refused", x.count(7), 0);
        x.end(381);
        Due.is("feed beyond 400", x.feed(0, 0, 0, 0, 0), NONE);
        x.end(380);
        Due.is("feed to 400", x.feed(0, 0, 0, 0, 0), 400);
        x = new WashLine();
        x.feed(0x05040302, 0x01040102, 0x03040000, 0x00000000, 0x00000000);
        x.end(10);
        Due.is("the highest byte first", x.row(), 2);
        Due.is("at(0, 2)", x.at(0, 2), 3);
        Due.is("at(0, 5)", x.at(0, 5), 0);
        Due.is("at(1, 1)", x.at(1, 1), 4);
        Due.is("at(1, 5)", x.at(1, 5), 3);
        x.feed(0xff010000, 0, 0, 0, 0);
        x.end(5);
        Due.is("a byte of 255", x.row(), 0);
    }

    private static void p10() {
        WashLine x = new WashLine();
        Due.is("end(0)", x.end(0), 0);
        Due.is("end(1)", x.end(1), NONE);
        x.feed(1, 2, 3, 4, 5);
        Due.is("end(21)", x.end(21), NONE);
        Due.is("end(-1)", x.end(-1), NONE);
        Due.is("count(6)", x.count(6), 20);
        Due.is("end(20)", x.end(20), 20);
        Due.is("end(7)", x.end(7), 7);
        Due.is("count(6)", x.count(6), 7);
        Due.is("end(8)", x.end(8), NONE);
        Due.is("feed", x.feed(0, 0, 0, 0, 0), 27);
        Due.is("status()", x.status(), 0);
    }

    private static void p11and12() {
        WashLine x = new WashLine();
        Due.is("an empty tape", x.row(), -6);
        Due.is("status()", x.status(), -6);
        Due.is("two", Edge.row(x, 0, 1, 0, 0, 0, 5, 4, 3, 2, 1), 2);
        Due.is("soap()", x.soap(), 0);
        Due.is("count(6)", x.count(6), 0);
        int[][] soaps = {{6, 1, 1, 0, 0}, {0, 0, 0, 0, 0}, {0, 0, 1, 0, 0}, {0, 1, 0, 1, 0}, {0, 5, 0, 0, 0},
            {0, 1, 1, 0, 2}, {0, 1, 255, 0, 0}, {255, 2, 0, 0, 0}, {1, 1, 0, 0, 0}, {0, 2}, {0, 2, 0, 0}};
        for (int[] bytes : soaps) {
            Due.is("soap", Edge.row(x, bytes), 0);
            Due.is("soap()", x.soap(), 1);
        }
        Due.is("an empty tape", x.row(), -6);
        Due.is("soap() of the latest that was not refused", x.soap(), 1);
        Due.is("twice the same", Edge.row(x, 2, 2, 2, 0, 0, 3, 2, 2, 0, 0, 4, 2), 1);
        Due.is("soap()", x.soap(), 2);
        Due.is("at(2, 1)", x.at(2, 1), 2);
        for (int k = 1; k <= 4; k++) {
            Edge.row(x, 0, 3, k, 0, 0);
        }
        Due.is("room for one", Edge.row(x, 0, 3, 3, 1, 0, 0, 3, 3, 2, 0), 1);
        Due.is("soap()", x.soap(), 1);
        Due.is("no room", Edge.row(x, 0, 3, 3, 2, 0), 0);
        Due.is("status(): not refused", x.status(), 0);
        Due.is("signs", x.count(0), 8);
    }

    private static void p13() {
        WashLine x = new WashLine();
        Due.is("an empty tape", x.law(), -6);
        Due.is("fault()", x.fault(), 0);
        Due.is("blanks alone", Due.law(x, "   "), -6);
        Due.is("fault()", x.fault(), 3);
        for (int k = 0; k < 6; k++) {
            Due.is("a law", Due.law(x, "goes " + k), k);
            Due.is("count(6)", x.count(6), 0);
        }
        Due.is("fault()", x.fault(), NONE);
        Due.is("a seventh", Due.law(x, "nonsense"), -5);
        Due.is("the tape is empty then, too", x.count(6), 0);
        Due.is("it was not read", x.fault(), NONE);
        Due.is("count(4)", x.count(4), 6);
        Due.is("none of them is in force", x.count(12), NONE);
        x.ship(0, 0, 0);
        for (int k = 0; k < 5; k++) {
            x.force(k);
            Due.is("goes " + k, x.asks(0, 0, 1), k);
        }
    }

    private static void lawFault(String text, int place) {
        WashLine x = new WashLine();
        Due.is("law " + text, Due.law(x, text), place == NONE ? 0 : -6);
        Due.is("fault of " + text, x.fault(), place);
    }

    private static void ordersFault(String text, int place) {
        WashLine x = new WashLine();
        int answer = Due.orders(x, text);
        Due.holds("orders " + text + " read", (answer == -6) == (place != NONE));
        Due.is("fault of " + text, x.fault(), place);
    }

    private static void p13grammar() {
        lawFault("weighs", 6);
        lawFault("weighs ", 7);
        lawFault("weigh 1", 0);
        lawFault("  Bars", 2);
        lawFault("bars3", 4);
        lawFault("bars ;", 6);
        lawFault(";bars", 0);
        lawFault("goes 1000", NONE);
        lawFault("goes 0001000", NONE);
        lawFault("goes 1001", 5);
        lawFault("goes 99999999999999999999", 5);
        lawFault("goes1if1=1", NONE);
        lawFault("goes -1", 5);
        lawFault("goes 1 +", 8);
        lawFault("goes 1 + * 2", 9);
        lawFault("goes (1)", 5);
        lawFault("goes [1", 7);
        lawFault("goes [1)", 7);
        lawFault("goes [1+]", 8);
        lawFault("goes [;bars", 6);
        lawFault("bars if (;bars", 9);
        lawFault("bars if (1=)", 11);
        lawFault("barsz", 0);
        lawFault("bars if zif", 8);
        lawFault("goes 1]", 6);
        lawFault("goes done", 5);
        lawFault("goes cell 0", 10);
        lawFault("goes 1 times 2", 7);
        lawFault("bars if", 7);
        lawFault("bars if 1", 9);
        lawFault("bars if 1=", 10);
        lawFault("bars if 1=1=1", 11);
        lawFault("bars if (1=1", 12);
        lawFault("bars if ((1=1) and 2>1) or not not (3<4)", NONE);
        lawFault("bars if (1)", 10);
        lawFault("bars if [1=1]", 10);
        lawFault("bars if not", 11);
        lawFault("bars if not 1", 13);
        lawFault("bars if 1=1 or", 14);
        lawFault("bars if 1=1 and or 1=1", 16);
        lawFault("bars if 1=1 not 1=1", 12);
        lawFault("bars if 1<=2", 10);
        lawFault("bars\t", 4);
        lawFault("goes ship+sign-long*means/cell%powder+day+mood", NONE);
        lawFault("goes [[[[[[[[1]]]]]]]]", NONE);
        lawFault("goes [[[[[[[[[1]]]]]]]]]", 13);
        lawFault("goes [[[[[[[[1]]]]]]]]+[1]", NONE);
        lawFault("bars if ((((((((1=1))))))))", NONE);
        lawFault("bars if (((((((([1]=1))))))))", 16);
        lawFault("bars if (((((((((1=1)))))))))", 16);
        lawFault("bars if ((((([[[1]]]=1)))))", NONE);
        String fifty = "goes 1" + "+1".repeat(48);
        lawFault(fifty + "+day", NONE);
        lawFault(fifty + "+day;goes 1", 5 + 2 * 49 + 3 + 6);
        lawFault(fifty + "+day+[cell]", 5 + 2 * 49 + 3 + 2);
        lawFault(fifty + "+day;bars", NONE);
        lawFault("bars" + ";bars".repeat(11), NONE);
        lawFault("bars" + ";bars".repeat(12), 60);
        lawFault("bars" + ";bars".repeat(11) + ";", 60);
        lawFault("bars" + ";bars".repeat(11) + "; )", 61);
        lawFault("bars if " + "not ".repeat(97) + "1=1", NONE);
        ordersFault("hang", 4);
        ordersFault("hang 9", NONE);
        ordersFault("take 1", 5);
        ordersFault("pass times", 10);
        ordersFault("pass times 0", 11);
        ordersFault("pass times 21", 11);
        ordersFault("pass times 1", NONE);
        ordersFault("pass times 020", NONE);
        ordersFault("pass times day", 11);
        ordersFault("pass if 1=1 times 2", 12);
        ordersFault("pass times 2 times 2", 13);
        ordersFault("pass times 2 if 1=2", NONE);
        ordersFault("sail cell", 9);
        ordersFault("sail cell 3", 10);
        ordersFault("sail cell day", 10);
        ordersFault("sail cell [0]", 10);
        ordersFault("sail powder 2", NONE);
        ordersFault("sail powder2*cell02", NONE);
        ordersFault("sail mood", 5);
        ordersFault("bars", 0);
        ordersFault("hang day+done+latest+hung+ways", NONE);
        ordersFault("hang cell 0" + "+cell 0".repeat(49), NONE);
        ordersFault("hang cell 0" + "+cell 0".repeat(49) + " times 2", NONE);
        ordersFault("hang cell 0" + "+cell 0".repeat(49) + "+0", 11 + 7 * 49 + 1);
        ordersFault("pass" + ";pass".repeat(12), 60);
        ordersFault("", 0);
        ordersFault("  ", 2);
    }

    private static void broken() {
        Due.is("the limit", Edge.so("1000*1000*1000 = 1000*1000*1000"), 1);
        Due.is("beyond it", Edge.so("1000*1000*1000+1 > 0"), 0);
        Due.is("not of beyond it", Edge.so("not 1000*1000*1000+1 > 0"), 0);
        Due.is("the limit below", Edge.so("0-1000*1000*1000 < 0"), 1);
        Due.is("beyond it below", Edge.so("0-1000*1000*1000-1 < 0"), 0);
        Due.is("beyond it between", Edge.so("1000*1000*1000+1-1 > 0"), 0);
        Due.is("far beyond", Edge.so("1000*1000*1000*1000*1000*1000*1000*1000 > 0"), 0);
        Due.is("/ by 0", Edge.so("1/0 = 0"), 0);
        Due.is("% by 0", Edge.so("1%0 = 0"), 0);
        Due.is("0 times broken", Edge.so("0*[1/0] = 0"), 0);
        Due.is("/ cut towards 0", Edge.so("[0-7]/2 = 0-3"), 1);
        Due.is("% what is left", Edge.so("[0-7]%2 = 0-1"), 1);
        Due.is("% what is left", Edge.so("7%[0-2] = 1"), 1);
        Due.is("* ahead of +", Edge.so("2+3*4 = 14"), 1);
        Due.is("from the left", Edge.so("10-3-2 = 5"), 1);
        Due.is("from the left", Edge.so("100/5*2%7 = 5"), 1);
        Due.is("brackets", Edge.so("[2+3]*4 = 20"), 1);
        Due.is("or: not asked", Edge.so("1=1 or 1/0=1"), 1);
        Due.is("or: asked", Edge.so("1=2 or 1/0=1"), 0);
        Due.is("or: broken ahead", Edge.so("1/0=1 or 1=1"), 0);
        Due.is("or: broken between", Edge.so("1=2 or 1/0=1 or 1=1"), 0);
        Due.is("and: not asked", Edge.so("not (1=2 and 1/0=1)"), 1);
        Due.is("and: asked", Edge.so("not (1=1 and 1/0=1)"), 0);
        Due.is("and: broken ahead", Edge.so("not (1/0=1 and 1=2)"), 0);
        Due.is("and binds more", Edge.so("1=1 or 1=1 and 1=2"), 1);
        Due.is("and binds more", Edge.so("(1=1 or 1=1) and 1=2"), 0);
        Due.is("rows of and, or", Edge.so("1=2 and 1=1 and 1=1 or 1=2 or 2=2 and 3=3"), 1);
        Due.is("not binds most", Edge.so("not 1=2 and 1=2"), 0);
        Due.is("not not", Edge.so("not not 1=1"), 1);
        Due.is("<", Edge.so("1<1"), 0);
        Due.is(">", Edge.so("1>1"), 0);
        Due.is("<", Edge.so("0<1"), 1);
        Due.is(">", Edge.so("1>0"), 1);
    }

    private static void p14to16() {
        WashLine x = Edge.ordinary();
        Due.is("an empty tape", x.orders(), -6);
        Due.is("fault()", x.fault(), 0);
        Due.is("stopped()", x.stopped(), NONE);
        Due.is("run", Due.orders(x, "hang 0; hang 1; sail 0; pass times 3"), 6);
        Due.is("fault()", x.fault(), NONE);
        Due.is("count(2)", x.count(2), 2);
        Due.is("cell", x.of(0, 0), 5);
        Due.is("faces", x.of(0, 1), 1);
        Due.is("day", x.count(13), 3);
        Due.is("can be undone", x.count(5), 6);
        Due.is("one can't be", Due.orders(x, "take; pass; hang 0; take times 3; pass"), -3);
        Due.is("stopped()", x.stopped(), 3);
        Due.is("as it was", x.line(1), 1);
        Due.is("as it was", x.count(13), 3);
        Due.is("as it was", x.count(5), 6);
        Due.is("count(9)", x.count(9), 1);
        Due.is("status()", x.status(), -3);
        Due.is("a text that can't be", Due.orders(x, "pass pass"), -6);
        Due.is("fault()", x.fault(), 5);
        Due.is("stopped()", x.stopped(), NONE);
        Due.is("count(6)", x.count(6), 0);
        Due.is("not so: not run", Due.orders(x, "pass if day>5; pass times 4 if day<5; hang 0 if 1/0=1"), 2);
        Due.is("day", x.count(13), 5);
        Due.is("stopped()", x.stopped(), NONE);
        Due.is("a broken sum", Due.orders(x, "pass; hang 1/0"), -3);
        Due.is("stopped()", x.stopped(), 1);
        Due.is("the if is asked first", Due.orders(x, "pass; hang 1/0 if 1=2"), 1);
        Due.is("no such cloth", Due.orders(x, "hang 4"), -3);
        Due.is("no such cloth", Due.orders(x, "hang 0-1"), -3);
        Due.is("count(7): not a call", x.count(7), 0);
        Due.is("no such ship", Due.orders(x, "sail 1"), -3);
        Due.is("no such ship", Due.orders(x, "sail 0-1"), -3);
        Due.is("count(8): not a call", x.count(8), 0);
        Due.is("no reading", Due.orders(x, "hang 3; sail 0"), -3);
        Due.is("stopped()", x.stopped(), 1);
        x.terms(0, 998);
        Due.is("the last day", Due.orders(x, "pass times 2"), -3);
        Due.is("as it was", x.count(13), 998);
        Due.is("law() does not change stopped()", Due.law(x, "bars"), 0);
        Due.is("stopped()", x.stopped(), 0);
    }

    private static int told(WashLine x, String sum) {
        for (int k = 0; k < 4; k++) {
            if (Due.orders(x, "hang " + k + " if " + sum + " = " + k) == 1) {
                x.take();
                return k;
            }
        }
        return NONE;
    }

    private static void p14words() {
        WashLine x = Edge.ordinary();
        x.ship(3, 1, 2);
        Edge.hang(x, 0, 1);
        Due.is("day", told(x, "day"), 0);
        Due.is("done", told(x, "done"), 0);
        Due.is("latest: none", told(x, "latest+1"), 0);
        Due.is("hung", told(x, "hung"), 2);
        Due.is("ways", told(x, "ways"), 2);
        Due.is("cell 1", told(x, "cell 1"), 3);
        Due.is("powder 1", told(x, "powder 1"), 2);
        Due.is("cell 0", told(x, "cell 0"), 0);
        Due.is("powder 0", told(x, "powder 0"), 3);
        Due.is("no ship 2", told(x, "cell 2 + 1"), 0);
        Due.is("no ship 2", told(x, "powder 2 + 1"), 0);
        Due.is("done counts each time", Due.orders(x, "pass times 3 if done<2; pass if done=2; hang 0 if done=3"), 4);
        x.take();
        Due.is("latest", Due.orders(x, "sail 0; pass if latest=2; take times 2; sail 0; pass if latest=0"), 6);
        Due.is("latest, done of an earlier text", Due.orders(x, "pass if latest>0-1; pass if done>0"), 0);
        Due.is("hung, ways as they are then", Due.orders(x, "hang 0; hang 1 if hung=1 and ways=1; pass if ways=2; hang 3; pass if ways=0"), 5);
    }

    private static void p14all() {
        WashLine x = Edge.ordinary();
        Edge.hang(x, 0, 0, 0, 0, 0, 0, 0, 0);
        for (int k = 0; k < 8; k++) {
            x.pass();
        }
        Due.is("16 can be undone", x.count(5), 16);
        Due.is("more than are kept, then one that can't be", Due.orders(x, "pass times 20; sail 2"), -3);
        Due.is("16 can be undone", x.count(5), 16);
        for (int k = 0; k < 16; k++) {
            Due.is("undo()", x.undo(), k < 8 ? 3 : 0);
        }
        Due.is("undo()", x.undo(), -3);
        Due.is("240", Due.orders(x, "pass times 20" + ";pass times 20".repeat(11)), 240);
    }

    private static void p17() {
        WashLine x = new WashLine();
        Due.is("none to none", x.force(NONE), NONE);
        Due.is("status()", x.status(), 0);
        Due.is("no such law", x.force(0), -2);
        Due.is("status()", x.status(), -2);
        Due.law(x, "bars");
        Due.law(x, "goes 2");
        Due.is("force(1)", x.force(1), NONE);
        Due.is("status()", x.status(), 0);
        Due.is("force(0)", x.force(0), 1);
        Due.is("force(2)", x.force(2), -2);
        Due.is("force(-2)", x.force(-2), -2);
        Due.is("force(MIN)", x.force(FAR_BELOW), -2);
        Due.is("count(12)", x.count(12), 0);
        Due.is("force(NONE)", x.force(NONE), 0);
        Due.is("count(8)", x.count(8), 4);
    }

    private static void p18and19() {
        WashLine x = new WashLine();
        Due.is("take()", x.take(), -3);
        Due.is("hang(-1)", x.hang(-1), -1);
        Due.is("hang(4)", x.hang(4), -1);
        for (int k = 0; k < 12; k++) {
            Due.is("hang", x.hang(k % 4), k + 1);
        }
        Due.is("a thirteenth", x.hang(0), -3);
        Due.is("-1 ahead of -3", x.hang(4), -1);
        for (int k = 11; k >= 0; k--) {
            Due.is("take()", x.take(), k % 4);
            Due.is("count(2)", x.count(2), k);
        }
        Due.is("take()", x.take(), -3);
        Due.is("count(9)", x.count(9), 3);
        Due.is("count(7)", x.count(7), 3);
    }

    private static void sailed(String what, WashLine x, int cell, int faces, int powder) {
        Due.is(what + ": cell", x.of(0, 0), cell);
        Due.is(what + ": faces", x.of(0, 1), faces);
        Due.is(what + ": powder", x.of(0, 2), powder);
    }

    /** A ship that does one order, by a law or none (""). */
    private static WashLine one(int cell, int faces, int powder, int order, String law) {
        WashLine x = new WashLine();
        x.ship(cell, faces, powder);
        x.sign(1, order);
        x.hang(0);
        if (!law.isEmpty()) {
            Due.is(law, Due.law(x, law), 0);
            x.force(0);
        }
        Due.is("sail(0)", x.sail(0), 1);
        return x;
    }

    private static void p20() {
        sailed("up", one(7, 0, 0, 0, ""), 12, 0, 0);
        sailed("right", one(7, 1, 0, 0, ""), 8, 1, 0);
        sailed("down", one(7, 2, 0, 0, ""), 2, 2, 0);
        sailed("left", one(7, 3, 0, 0, ""), 6, 3, 0);
        sailed("the edge up", one(22, 0, 0, 0, ""), 22, 0, 0);
        sailed("the edge right", one(9, 1, 0, 0, ""), 9, 1, 0);
        sailed("the edge down", one(3, 2, 0, 0, ""), 3, 2, 0);
        sailed("the edge left", one(10, 3, 0, 0, ""), 10, 3, 0);
        sailed("4 up", one(6, 0, 0, 0, "goes 4"), 21, 0, 0);
        sailed("4 right", one(6, 1, 0, 0, "goes 9"), 9, 1, 0);
        sailed("4 down", one(18, 2, 0, 0, "goes 4"), 3, 2, 0);
        sailed("3 left", one(18, 3, 0, 0, "goes 3"), 15, 3, 0);
        sailed("0", one(18, 3, 0, 0, "goes 0"), 18, 3, 0);
        sailed("left", one(7, 0, 1, 1, ""), 7, 3, 1);
        sailed("right", one(7, 3, 1, 2, ""), 7, 0, 1);
        sailed("about", one(7, 3, 1, 3, ""), 7, 1, 1);
        sailed("fire", one(7, 3, 1, 4, ""), 7, 3, 0);
        sailed("fire without powder", one(7, 3, 0, 4, ""), 7, 3, 0);
        sailed("wait", one(7, 3, 9, 5, ""), 7, 3, 9);
        sailed("barred", one(7, 0, 9, 0, "bars if means=0"), 7, 0, 9);
        sailed("barred from others", one(7, 0, 9, 0, "bars if means>0"), 12, 0, 9);
        WashLine x = Edge.ordinary();
        Due.is("no cloths", x.sail(0), 0);
        Due.is("no such ship", x.sail(1), -2);
        Due.is("no such ship", x.sail(-1), -2);
        x.hang(3);
        Due.is("-2 ahead of -3", x.sail(1), -2);
        Due.is("no reading", x.sail(0), -3);
        Due.is("can be undone", x.count(5), 2);
        x = Edge.ordinary("goes 1+cell/5 ; bars if means=0 and cell=15; weighs 1");
        Edge.hang(x, 0, 0, 0, 0);
        Due.is("the cell as it is then", x.sail(0), 4);
        sailed("1, then 2, then barred", x, 15, 0, 3);
        Due.is("no day passes", x.count(13), 0);
        Due.is("the line stays", x.count(2), 4);
        x = Edge.ordinary("bars if sign=0-1 and long=0-1 and means=2; goes 2 if sign=0-1 and long=0-1");
        Edge.hang(x, 1, 0);
        x.sail(0);
        sailed("neither sign nor long", x, 10, 0, 3);
        x = Edge.ordinary("bars if means=4 and powder<3; weighs 10*powder if sign=2");
        Edge.hang(x, 0, 1, 0, 1);
        Due.is("weighs as the ship is ahead of the line", x.sail(0), 4);
        sailed("two signs twice", x, 6, 2, 3);
    }

    private static void p21() {
        WashLine x = new WashLine();
        Due.is("pass()", x.pass(), 1);
        Due.is("pass()", x.pass(), 2);
        x.terms(0, 998);
        Due.is("pass()", x.pass(), 999);
        Due.is("pass()", x.pass(), -3);
        Due.is("status()", x.status(), -3);
        Due.is("day", x.count(13), 999);
    }

    private static void p22() {
        WashLine x = Edge.ordinary();
        Due.is("undo()", x.undo(), -3);
        Edge.hang(x, 0, 1);
        x.sail(0);
        x.take();
        x.pass();
        x.hang(9);
        Due.is("a pass", x.undo(), 3);
        Due.is("day", x.count(13), 0);
        Due.is("a take", x.undo(), 1);
        Due.is("line(1)", x.line(1), 1);
        Due.is("a sail", x.undo(), 2);
        sailed("undone", x, 0, 0, 3);
        Due.is("a hang", x.undo(), 0);
        Due.is("count(2)", x.count(2), 1);
        Due.is("count(5)", x.count(5), 1);
        x.ship(30, 0, 0);
        x.terms(0, -1);
        Due.is("refused ones change nothing", x.count(5), 1);
        x.sign(44, 0);
        x.seen(1);
        x.image(0);
        Due.is("nor do others", x.count(5), 1);
        x.ship(1, 0, 0);
        Due.is("nothing ahead of a ship()", x.undo(), -3);
        x.sail(1);
        Due.is("ship 1", x.of(1, 0), 6);
        Due.is("a sail", x.undo(), 2);
        Due.is("ship 1", x.of(1, 0), 1);
        Due.is("ship 0", x.of(0, 0), 0);
        for (int k = 0; k < 6; k++) {
            x.hang(k % 3);
            x.pass();
            x.take();
        }
        int[] kinds = {0, 3, 1};
        for (int k = 17; k > 1; k--) {
            Due.is("the latest 16, undo " + k, x.undo(), kinds[k % 3]);
        }
        Due.is("undo()", x.undo(), -3);
        Due.is("count(2)", x.count(2), 2);
        Due.is("day", x.count(13), 1);
        x.hang(2);
        x.terms(2, 0);
        Due.is("nothing ahead of a terms()", x.undo(), -3);
        for (int k = 0; k < 20; k++) {
            x.pass();
        }
        Due.is("16 are kept", x.count(5), 16);
        for (int k = 0; k < 16; k++) {
            Due.is("undo()", x.undo(), 3);
        }
        Due.is("undo()", x.undo(), -3);
        Due.is("day", x.count(13), 5);
        Due.is("status()", x.status(), -3);
    }

    private static void p23() {
        WashLine x = new WashLine();
        Due.is("no cloths, no signs", x.readings(), 1);
        x.hang(0);
        Due.is("no signs", x.readings(), 0);
        x.sign(1, 0);
        x.sign(11, 0);
        x.sign(111, 0);
        x.sign(1111, 0);
        int[] due = {1, 2, 4, 8, 15, 29, 56, 108, 208, 401, 773, 1490};
        for (int n = 1; n <= 12; n++) {
            Due.is("readings of " + n, x.readings(), due[n - 1]);
            x.hang(0);
        }
        x = Edge.ordinary();
        Edge.hang(x, 0, 1, 2, 2);
        Due.is("readings()", x.readings(), 2);
        x.hang(2);
        Due.is("readings()", x.readings(), 0);
    }

    private static void p24() {
        WashLine x = Edge.ordinary();
        Due.is("no cloths", x.reads(0, NONE), 0);
        Due.is("no cloths", x.reads(0, 0), NONE);
        Edge.hang(x, 0, 1, 2, 2);
        int[] first = {0, 1, 3};
        Due.is("the first of two", x.reads(0, NONE), 3);
        for (int i = 0; i < 3; i++) {
            Due.is("reads(0, " + i + ")", x.reads(0, i), first[i]);
        }
        Due.is("reads(0, 3)", x.reads(0, 3), NONE);
        Due.is("reads(0, -2)", x.reads(0, -2), NONE);
        Due.is("reads(1, -1)", x.reads(1, NONE), NONE);
        Due.is("reads(-1, -1)", x.reads(-1, NONE), NONE);
        x.hang(3);
        Due.is("no reading", x.reads(0, NONE), NONE);
        x = Edge.ordinary("weighs 3; weighs 5 if sign=2");
        Edge.hang(x, 0, 1, 2, 2);
        Due.is("the one that weighs least", x.reads(0, NONE), 2);
        Due.is("reads(0, 0)", x.reads(0, 0), 2);
        Due.is("reads(0, 1)", x.reads(0, 1), 3);
        x = Edge.ordinary("weighs 0");
        x.ship(1, 1, 1);
        Edge.hang(x, 0, 1);
        Due.is("weighs nothing: the first", x.reads(1, 0), 0);
        x = Edge.ordinary("weighs 9 if ship=0 and sign<2");
        x.ship(1, 1, 1);
        Edge.hang(x, 0, 1);
        Due.is("ship 0", x.reads(0, 0), 2);
        Due.is("ship 1", x.reads(1, 0), 0);
    }

    private static void p25() {
        WashLine x = Edge.ordinary();
        Edge.hang(x, 0, 1, 0);
        int[] due = {6, 1, 3, NONE, NONE};
        for (int what = 0; what < 5; what++) {
            Due.is("where(0, " + what + ")", x.where(0, what), due[what]);
        }
        Due.is("where(0, -1)", x.where(0, -1), NONE);
        Due.is("where(1, 0)", x.where(1, 0), NONE);
        Due.is("where(-1, 0)", x.where(-1, 0), NONE);
        sailed("on paper", x, 0, 0, 3);
        x.hang(3);
        Due.is("no reading", x.where(0, 0), NONE);
        x = Edge.ordinary("weighs 5-2*long");
        Edge.hang(x, 0, 1);
        Due.is("fires", x.where(0, 2), 2);
    }

    private static void p26() {
        WashLine x = Edge.ordinary();
        Due.is("one ship", x.meetings(NONE), 0);
        x.ship(10, 2, 0);
        x.ship(5, 2, 0);
        Due.is("no cloths", x.meetings(NONE), 0);
        x.hang(0);
        Due.is("meetings(-1)", x.meetings(NONE), 1);
        Due.is("meetings(0)", x.meetings(0), 1);
        Due.is("meetings(1)", x.meetings(1), NONE);
        Due.is("meetings(-2)", x.meetings(-2), NONE);
        Due.is("meetings(MIN)", x.meetings(FAR_BELOW), NONE);
        x.hang(3);
        Due.is("no reading", x.meetings(NONE), 0);
        Due.is("no reading", x.meetings(0), NONE);
        x = Edge.ordinary();
        x.ship(0, 1, 1);
        x.ship(0, 2, 1);
        Due.is("three", x.meetings(NONE), 3);
        Due.is("0 and 1", x.meetings(0), 1);
        Due.is("0 and 2", x.meetings(1), 2);
        Due.is("1 and 2", x.meetings(2), 12);
        Due.is("meetings(3)", x.meetings(3), NONE);
        x.hang(3);
        Due.is("in one cell, but no reading", x.meetings(NONE), 0);
    }

    private static void row(String what, WashLine x, int cell, int cloths, int... signs) {
        Due.is(what, x.plan(0, cell, NONE), cloths);
        for (int i = 0; i < signs.length; i++) {
            Due.is(what + ", sign " + i, x.plan(0, cell, i), signs[i]);
        }
        Due.is(what + ", its end", x.plan(0, cell, signs.length), NONE);
    }

    private static void p27() {
        WashLine x = Edge.ordinary();
        row("where it is", x, 0, 0);
        row("up", x, 5, 1, 0);
        row("right", x, 1, 2, 1, 0);
        row("up and right", x, 6, 3, 0, 1, 0);
        row("the far corner", x, 24, 9, 0, 0, 0, 0, 1, 0, 0, 0, 0);
        Due.is("plan(0, 25, -1)", x.plan(0, 25, NONE), NONE);
        Due.is("plan(0, -1, -1)", x.plan(0, -1, NONE), NONE);
        Due.is("plan(1, 0, -1)", x.plan(1, 0, NONE), NONE);
        Due.is("plan(-1, 0, -1)", x.plan(-1, 0, NONE), NONE);
        Due.is("plan(0, 5, -2)", x.plan(0, 5, -2), NONE);
        Due.is("plan(0, 5, MAX)", x.plan(0, 5, FAR_OFF), NONE);
        x = new WashLine();
        x.ship(12, 0, 0);
        row("without signs, where it is", x, 12, 0);
        row("without signs", x, 13, NONE);
        x.sign(1111, 0);
        row("up alone", x, 22, 8, 0, 0);
        row("not down", x, 7, NONE);
        x.sign(1, 2);
        row("left", x, 11, 7, 1, 1, 1, 0);
        x.sign(2, 1);
        row("left by left", x, 11, 5, 2, 0);
        row("down: the first of several", x, 7, 6, 1, 1, 0);
        x.sign(3, 3);
        row("about", x, 7, 5, 3, 0);
        x = new WashLine();
        x.ship(0, 0, 0);
        x.sign(1111, 0);
        x.sign(2222, 1);
        x.sign(3333, 3);
        row("more cloths than a line has", x, 24, 40, 0, 0, 0, 0, 1, 2, 0, 0, 0, 0);
    }

    private static void p27laws() {
        WashLine x = new WashLine();
        x.ship(0, 0, 3);
        x.sign(1, 0);
        x.sign(2, 4);
        Due.law(x, "goes 2; goes 1 if powder<3");
        x.force(0);
        row("two at once", x, 10, 1, 0);
        row("one behind a shot", x, 5, 2, 1, 0);
        row("a shot first", x, 15, 3, 0, 1, 0);
        Due.law(x, "bars if cell=5; goes 3 if means=0");
        x.force(1);
        row("over it", x, 15, 1, 0);
        row("not into it", x, 5, NONE);
        Due.law(x, "bars if cell=10 and means=0; bars if means=4 and cell<5");
        x.force(2);
        row("up to it", x, 10, 2, 0, 0);
        row("not out of it", x, 15, NONE);
        Due.law(x, "bars if powder=3 and means=0");
        x.force(3);
        row("behind a shot", x, 5, 2, 1, 0);
        Due.law(x, "bars if powder=3 and means=0; bars if means=4 and cell=0");
        x.force(4);
        row("never", x, 5, NONE);
        x = new WashLine();
        x.ship(0, 0, 0);
        x.sign(11, 0);
        x.sign(1, 0);
        row("the shortest of two of one meaning", x, 5, 1, 1);
        x.sign(2, 0);
        row("the first of two as short", x, 5, 1, 1);
    }

    private static void mended(String what, WashLine x, int cloths, int... signs) {
        Due.is(what, x.mended(NONE), cloths);
        for (int i = 0; i < signs.length; i++) {
            Due.is(what + ", sign " + i, x.mended(i), signs[i]);
        }
        Due.is(what + ", its end", x.mended(signs.length), NONE);
    }

    private static void p28() {
        WashLine x = new WashLine();
        mended("no cloths, no signs", x, 0);
        x.hang(0);
        mended("no signs", x, NONE);
        x = Edge.ordinary();
        Edge.hang(x, 0, 1);
        mended("nothing to mend: the first reading", x, 0, 0, 1);
        x.hang(3);
        mended("one", x, 1, 0, 1, 0);
        Due.is("mended(-2)", x.mended(-2), NONE);
        x = new WashLine();
        x.sign(123, 0);
        x.sign(44, 0);
        Edge.hang(x, 3, 3, 3, 3);
        mended("none", x, 0, 1, 1);
        x.hang(0);
        mended("by the end", x, 3, 1, 0);
        x.undo();
        x.take();
        mended("three", x, 3, 0);
        x.take();
        x.take();
        mended("too short", x, NONE);
    }

    /** The length, up to a bound, of the shortest line that has two readings: all rows of signs are listed. */
    private static int listed(int most, int... rows) {
        List<Set<String>> lines = new ArrayList<>();
        lines.add(Set.of(""));
        for (int n = 1; n <= most; n++) {
            Set<String> here = new HashSet<>();
            for (int row : rows) {
                String last = Integer.toString(row);
                if (last.length() <= n) {
                    for (String line : lines.get(n - last.length())) {
                        if (!here.add(line + last)) {
                            return n;
                        }
                    }
                }
            }
            lines.add(here);
        }
        return NONE;
    }

    private static void p29and30() {
        int[][] books = {{}, {1}, {1, 2}, {1, 2, 12}, {1, 11}, {12, 21}, {12, 1, 2222, 22}, {1, 21, 12}, {1, 12, 22},
            {1, 1222, 2}, {12, 122, 2}, {112, 1, 21}, {1212, 12}, {121, 212, 12, 21}, {1112, 111, 2111},
            {3, 31, 13}, {4444, 44}, {444, 4444}, {1, 12, 123, 1234}, {2, 21, 321, 4321}, {12, 23, 31, 1231},
            {1221, 1112, 1, 211, 2212}, {1222, 2121, 112, 211, 122, 1}, {4433, 443, 4, 1134, 3444, 3122}};
        for (int[] rows : books) {
            int due = listed(8, rows);
            int got = Edge.book(rows).twofold();
            Due.holds("twofold of " + Arrays.toString(rows) + ": " + got, due == got || due == NONE && got > 8);
        }
        Due.is("long: 1 12 22", Edge.book(1, 12, 22).twofold(), NONE);
        Due.is("444 4444", Edge.book(444, 4444).twofold(), 7);
        int[] longer = {3231, 3133, 2212, 1232, 312, 2323, 323};
        Due.is("longer than a line has cloths, listed", listed(18, longer), 18);
        Due.is("longer than a line has cloths", Edge.book(longer).twofold(), 18);
        Due.is("struck(0), none", Edge.book().struck(0), 0);
        Due.is("struck(1), none", Edge.book().struck(1), 0);
        Due.is("struck(0)", Edge.book(1, 2, 12).struck(0), 1);
        Due.is("struck(1): the lowest", Edge.book(1, 2, 12).struck(1), 1);
        Due.is("struck(1)", Edge.book(3, 1, 11, 111).struck(1), 6);
        Due.is("struck(0)", Edge.book(3, 1, 11, 111).struck(0), 2);
        Due.is("struck(0)", Edge.book(1, 11, 111, 1111, 2, 22, 222, 2222).struck(0), 6);
        Due.is("struck(1)", Edge.book(1, 11, 111, 1111, 2, 22, 222, 2222).struck(1), 0x77);
        Due.is("struck(2)", Edge.book(1).struck(2), NONE);
        Due.is("struck(-1)", Edge.book(1).struck(-1), NONE);
    }

    private static void p31() {
        WashLine x = new WashLine();
        Due.is("rows(0)", x.rows(0), 1);
        Due.is("rows(1)", x.rows(1), 0);
        Due.is("rows(-1)", x.rows(-1), NONE);
        Due.is("rows(21)", x.rows(21), NONE);
        for (int row : new int[] {1, 2, 3, 4, 11, 12, 13, 14}) {
            x.sign(row, 0);
        }
        long a = 1;
        long b = 4;
        for (int n = 2; n <= 20; n++) {
            long c = 4 * b + 4 * a;
            Due.is("rows(" + n + ")", x.rows(n), c);
            a = b;
            b = c;
        }
        Due.is("rows(3) of threes", Edge.book(111, 222).rows(3), 2);
        Due.is("rows(4) of threes", Edge.book(111, 222).rows(4), 0);
        Due.is("rows(20) of fours", Edge.book(1111).rows(20), 1);
    }

    private static void p32to34() {
        WashLine x = Edge.ordinary();
        Due.is("seen(-1)", x.seen(-1), -1);
        Due.is("seen(6)", x.seen(6), -1);
        Due.is("forget()", x.forget(), 0);
        Due.is("fits: the reading without signs", x.fits(), 1);
        Due.is("seen(0)", x.seen(0), 1);
        Due.is("fits: no signs, but one was done", x.fits(), 0);
        Edge.hang(x, 0, 1, 0, 1);
        Due.is("fits", x.fits(), 2);
        Due.is("seen(2)", x.seen(2), 2);
        Due.is("fits", x.fits(), 2);
        Due.is("seen(4)", x.seen(4), 3);
        Due.is("fits", x.fits(), 1);
        Due.is("seen(5)", x.seen(5), 4);
        Due.is("all of DONE", x.fits(), 0);
        Due.is("seen(5)", x.seen(5), 5);
        Due.is("seen(5)", x.seen(5), 6);
        Due.is("a seventh", x.seen(5), -5);
        Due.is("status()", x.status(), -5);
        Due.is("-1 ahead of -5", x.seen(6), -1);
        Due.is("count(3)", x.count(3), 6);
        Due.is("forget()", x.forget(), 6);
        Due.is("status(): not of forget()", x.status(), -1);
        Due.is("count(3)", x.count(3), 0);
        Due.is("fits: all", x.fits(), 4);
        x.seen(4);
        x.seen(4);
        Due.is("fits: all of a reading", x.fits(), 1);
    }

    private static void p35() {
        WashLine x = new WashLine();
        long whole = 1000000000000L;
        Due.is("few(1, 0)", x.few(1, 0), whole);
        Due.is("few(1, 1)", x.few(1, 1), whole / 2);
        Due.is("few(1, 3)", x.few(1, 3), whole / 8);
        Due.is("few(2, 3)", x.few(2, 3), whole / 2);
        Due.is("few(20, 3)", x.few(20, 3), whole);
        Due.is("few(20, 0)", x.few(20, 0), whole);
        int[][] wrong = {{0, 0}, {21, 0}, {1, -1}, {1, 100}, {FAR_OFF, 0}, {1, FAR_BELOW}};
        for (int[] w : wrong) {
            Due.is("few(" + w[0] + ", " + w[1] + ")", x.few(w[0], w[1]), NONE);
        }
        x.terms(1, 0);
        Due.is("none dries", x.few(1, 99), whole);
        x.terms(1, 10);
        Due.is("all dry", x.few(1, 1), 0);
        Due.is("all dry", x.few(20, 19), whole);
        Due.is("all dry", x.few(20, 20), 0);
        x.terms(1, 3);
        Due.is("few(1, 2)", x.few(1, 2), 490000000000L);
        Due.is("few(2, 2)", x.few(2, 2), 910000000000L);
        // 0.7 to the 13th power is 0.0096889010407
        Due.is("cut", x.few(1, 13), 9688901040L);
        x.terms(1, 9);
        Due.is("cut to nothing", x.few(1, 13), 0);
    }

    private static void p36() {
        WashLine x = Edge.ordinary();
        Edge.hang(x, 0, 1, 2, 2);
        Due.law(x, "weighs 9");
        Due.law(x, "weighs 10*sign; weighs 99 if sign=3");
        Due.is("none", x.compare(NONE, 0), 4);
        Due.is("law 0", x.compare(0, 0), 18);
        Due.is("law 1", x.compare(1, 0), 109);
        Due.is("none is in force", x.count(12), NONE);
        Due.is("compare(2, 0)", x.compare(2, 0), NONE);
        Due.is("compare(-2, 0)", x.compare(-2, 0), NONE);
        Due.is("compare(0, 1)", x.compare(0, 1), NONE);
        Due.is("compare(0, -1)", x.compare(0, -1), NONE);
        x.hang(3);
        Due.is("no reading", x.compare(0, 0), NONE);
    }

    private static void p37and38() {
        WashLine x = Edge.book(1, 2, 33);
        Due.is("no ships", x.months(0, 1), -3);
        Due.is("-1 ahead of -3", x.months(0, 0), -1);
        x.ship(0, 0, 5);
        x.ship(12, 1, 5);
        Due.is("drawn ahead of any", x.drawn(0, 0), NONE);
        int[][] wrong = {{-1, 1}, {1000001, 1}, {0, 0}, {0, 61}, {0, -5}};
        for (int[] w : wrong) {
            Due.is("months(" + w[0] + ", " + w[1] + ")", x.months(w[0], w[1]), -1);
        }
        Due.is("drawn ahead of any", x.drawn(0, 0), NONE);
        // From 0 the draws are 12345 and 628841: cloth 1, ship 1.
        Due.is("months(0, 1)", x.months(0, 1), 1);
        Due.is("drawn(1, 0)", x.drawn(1, 0), 13);
        Due.is("drawn(1, 1)", x.drawn(1, 1), 1);
        Due.is("drawn(1, 2)", x.drawn(1, 2), 5);
        Due.is("drawn(0, 0)", x.drawn(0, 0), 0);
        Due.is("drawn(2, 0)", x.drawn(2, 0), NONE);
        Due.is("drawn(-1, 0)", x.drawn(-1, 0), NONE);
        Due.is("drawn(0, 3)", x.drawn(0, 3), NONE);
        Due.is("drawn(0, -1)", x.drawn(0, -1), NONE);
        Due.is("on paper", x.of(1, 0), 12);
        Due.is("on paper", x.count(13), 0);
        Due.is("on paper", x.count(2), 0);
        Due.is("refused", x.months(0, 61), -1);
        Due.is("the latest stays", x.drawn(1, 0), 13);
        x.ship(3, 3, 3);
        Due.is("a ship that came later", x.drawn(2, 0), NONE);
        x.terms(0, 999);
        Due.is("the last day", x.months(1000000, 60), 0);
        Due.is("drawn(2, 0)", x.drawn(2, 0), 3);
        x.terms(0, 998);
        Due.is("one day", x.months(0, 60), x.months(0, 1));
    }

    /** The draws by hand: from 7 the first six are 20066, 145077, 31796, 83228, 812556, 258925. */
    private static void p37draws() {
        long s = 7;
        int[] due = {20066, 145077, 31796, 83228, 812556, 258925};
        for (int k = 0; k < due.length; k++) {
            s = (s * 1103 + 12345) % 1000003;
            Due.is("draw " + k, s, due[k]);
        }
        // Cloths 2, 0, 0; ships (of two) 1, 0, 1.
        WashLine x = new WashLine();
        x.sign(1, 0);
        x.sign(2, 1);
        x.sign(3, 2);
        x.ship(0, 0, 0);
        x.ship(12, 0, 0);
        Due.is("months(7, 3)", x.months(7, 3), 3);
        Due.is("ship 0 went ahead", x.drawn(0, 0), 5);
        Due.is("ship 0", x.drawn(0, 1), 0);
        Due.is("ship 1: right, then ahead", x.drawn(1, 0), 13);
        Due.is("ship 1", x.drawn(1, 1), 1);
        Due.is("months(7, 1)", x.months(7, 1), 1);
        Due.is("ship 1: right", x.drawn(1, 1), 1);
        // Ships of three: 145077 modulo 3 is 0, 83228 is 2, 258925 is 1.
        x.ship(4, 3, 0);
        Due.is("months(7, 3)", x.months(7, 3), 3);
        Due.is("ship 0: right", x.drawn(0, 1), 1);
        Due.is("ship 1: ahead", x.drawn(1, 0), 17);
        Due.is("ship 2: ahead", x.drawn(2, 0), 3);
        // A sign of two cloths: nothing is read until both hang, then the ship of that time sails.
        WashLine y = new WashLine();
        y.sign(31, 4);
        y.ship(0, 0, 9);
        y.ship(0, 0, 9);
        Due.is("months(7, 1)", y.months(7, 1), 0);
        Due.is("months(7, 2)", y.months(7, 2), 1);
        Due.is("ship 0 fired", y.drawn(0, 2), 8);
        Due.is("ship 1 did not", y.drawn(1, 2), 9);
        y.hang(2);
        y.hang(0);
        Due.is("what hangs there already counts", y.months(7, 2), 1);
        Due.is("it was read as a row of two", y.drawn(0, 2), 7);
    }

    private static void p37line() {
        WashLine x = new WashLine();
        x.ship(0, 0, 0);
        Due.is("no signs", x.months(7, 60), 0);
        // Nothing can be read until the twelve cloths are off, and then only what the draws hang.
        x.sign(1, 0);
        x.sign(2, 0);
        x.sign(3, 0);
        x.sign(4, 0);
        Due.is("each cloth is a sign", x.months(7, 4), 4);
        Due.is("each goes ahead", x.drawn(0, 0), 20);
        WashLine y = new WashLine();
        y.ship(0, 0, 0);
        for (int row : new int[] {1, 2, 3}) {
            y.sign(row, 0);
        }
        for (int k = 0; k < 12; k++) {
            y.hang(3);
        }
        Due.is("12 cloths without a reading: off", y.months(0, 1), 0);
        // The second time the draw of 4 is 628841 * 1103 + 12345 modulo 1,000,003, which is cloth 1.
        long s = (628841L * 1103 + 12345) % 1000003;
        Due.is("the draw", s % 4, 1);
        Due.is("then one by one", y.months(0, 2), 1);
        WashLine z = new WashLine();
        z.ship(0, 0, 9);
        for (int row : new int[] {1, 2, 3, 4}) {
            z.sign(row, 0);
        }
        Due.law(z, "goes day");
        z.force(0);
        z.months(0, 2);
        Due.is("0 cells on day 0, 1 on day 1", z.drawn(0, 0), 5);
        z.months(0, 3);
        Due.is("2 on day 2", z.drawn(0, 0), 15);
    }

    private static void p39and40() {
        WashLine x = Edge.ordinary();
        for (int k : new int[] {-1, 2, FAR_OFF}) {
            Due.is("image(" + k + ")", x.image(k), -1);
            Due.is("back(" + k + ")", x.back(k), -1);
        }
        Due.is("back(0)", x.back(0), -2);
        Due.law(x, "goes 2");
        x.force(0);
        x.seen(3);
        Edge.hang(x, 0, 1);
        x.terms(0, 5);
        x.terms(1, 6);
        x.terms(2, 7);
        x.pass();
        Due.is("image(1)", x.image(1), 0);
        Due.is("status()", x.status(), 0);
        Due.is("what can be undone stays", x.count(5), 1);
        Due.is("back(0)", x.back(0), -2);
        x.sail(0);
        x.sign(4, 5);
        x.ship(24, 1, 1);
        Due.law(x, "goes 3");
        x.force(1);
        x.forget();
        x.seen(0);
        x.take();
        x.terms(0, 0);
        x.terms(1, 0);
        x.terms(2, 0);
        x.pass();
        Due.law(x, "bars 7");
        Due.orders(x, "take times 9");
        x.months(3, 9);
        int months = x.drawn(1, 0);
        Edge.row(x, 9, 9);
        x.feed(1, 1, 1, 1, 1);
        Due.is("back(1)", x.back(1), 0);
        int[] counts = {4, 1, 2, 1, 1, 0, 20, 6, 2, 1, 0, 1, 0, 6, 6, 7};
        for (int what = 0; what < 16; what++) {
            Due.is("count(" + what + ")", x.count(what), counts[what]);
        }
        sailed("the ship", x, 0, 0, 3);
        Due.is("the line", x.line(1), 1);
        Due.is("what a sign means", x.at(3, 1), 3);
        Due.is("done: about", x.fits(), 0);
        Due.is("soap() stays", x.soap(), 1);
        Due.is("fault() stays", x.fault(), NONE);
        Due.is("stopped() stays", x.stopped(), 0);
        Due.is("the latest months stay", x.drawn(1, 0), months);
        Due.holds("of a ship that is gone", months != NONE);
        Due.is("nothing can be undone", x.undo(), -3);
        Due.is("the law", x.asks(0, 0, 1), 2);
        x.end(0);
        x.image(0);
        Due.law(x, "goes 4");
        x.force(1);
        x.image(1);
        x.back(0);
        Due.law(x, "goes 0");
        x.force(1);
        Due.is("another law of that number", x.asks(0, 0, 1), 0);
        Due.is("back(1)", x.back(1), 0);
        Due.is("the law of the image", x.asks(0, 0, 1), 4);
        WashLine y = new WashLine();
        y.image(0);
        y.sign(12, 3);
        y.ship(3, 2, 1);
        y.image(1);
        y.back(0);
        y.sign(431, 4);
        y.ship(7, 0, 9);
        y.back(1);
        int[] sign = {2, 3, 0, 1, NONE};
        for (int what = 0; what < 5; what++) {
            Due.is("the sign of the image", y.at(0, what), sign[what]);
        }
        sailed("the ship of the image", y, 3, 2, 1);
        x.hang(0);
        Due.is("images stay", x.back(1), 0);
        Due.is("count(2)", x.count(2), 2);
    }

    private static void p41() {
        WashLine x = Edge.ordinary();
        x.hang(0);
        x.feed(0, 0, 0, 0, 0);
        Due.is("signs", x.count(0), 4);
        Due.is("ships", x.count(1), 1);
        Due.is("cloths", x.count(2), 1);
        Due.is("bytes", x.count(6), 20);
        x.hang(7);
        x.sail(7);
        x.sail(1);
        x.force(3);
        Due.is("-1", x.count(7), 1);
        Due.is("-2", x.count(8), 3);
        x.reads(9, 9);
        x.where(9, 9);
        x.plan(9, 9, 9);
        x.at(9, 9);
        x.few(0, 0);
        x.rows(99);
        x.compare(9, 9);
        x.end(999);
        x.count(99);
        Due.is("NONE is no refusal", x.count(7), 1);
        for (int what : new int[] {-1, 16, FAR_OFF, FAR_BELOW}) {
            Due.is("count(" + what + ")", x.count(what), NONE);
        }
        x.end(0);
        x.law();
        x.orders();
        x.row();
        Due.is("-6", x.count(11), 3);
        x.image(0);
        x.image(5);
        x.back(0);
        Due.is("images do not keep that", x.count(7), 2);
    }

    private static void p42() {
        WashLine x = Edge.ordinary();
        Due.is("sign", x.sign(9, 0) + x.status() * 10, -11);
        Due.is("ship", x.ship(1, 1, 1) + x.status() * 10, 1);
        Due.is("terms", x.terms(3, 3) + x.status() * 10, -11);
        Due.is("row", x.row() + x.status() * 10, -66);
        x.readings();
        x.meetings(9);
        x.forget();
        x.end(9);
        x.count(99);
        Due.is("others change nothing", x.status(), -6);
        Due.is("seen", x.seen(0) + x.status() * 10, 1);
        Due.is("law", x.law() + x.status() * 10, -66);
        Due.is("hang", x.hang(0) + x.status() * 10, 1);
        Due.is("orders", x.orders() + x.status() * 10, -66);
        Due.is("take", x.take() + x.status() * 10, 0);
        Due.is("take", x.take() + x.status() * 10, -33);
        Due.is("undo", x.undo() + x.status() * 10, 1);
        Due.is("force", x.force(0) + x.status() * 10, -22);
        Due.is("pass", x.pass() + x.status() * 10, 1);
        Due.is("sail", x.sail(9) + x.status() * 10, -22);
        Due.is("months", x.months(0, 0) + x.status() * 10, -11);
        Due.is("image", x.image(0) + x.status() * 10, 0);
        Due.is("back", x.back(1) + x.status() * 10, -22);
        Due.is("back", x.back(0) + x.status() * 10, 0);
        Due.is("undo", x.undo() + x.status() * 10, -33);
    }

    public static void main(String[] args) {
        Due.part("promise 1");
        p1();
        Due.part("promise 2");
        p2();
        Due.part("promise 3");
        p3();
        Due.part("promise 4");
        p4();
        Due.part("promise 5");
        p5();
        Due.part("promise 6");
        p6();
        Due.part("promise 7");
        p7();
        Due.part("promise 8");
        p8();
        Due.part("promise 9");
        p9();
        Due.part("promise 10");
        p10();
        Due.part("promises 11, 12");
        p11and12();
        Due.part("promises 13, 15");
        p13();
        p13grammar();
        broken();
        Due.part("promises 14, 15, 16");
        p14to16();
        p14words();
        p14all();
        Due.part("promise 17");
        p17();
        Due.part("promises 18, 19");
        p18and19();
        Due.part("promise 20");
        p20();
        Due.part("promise 21");
        p21();
        Due.part("promise 22");
        p22();
        Due.part("promise 23");
        p23();
        Due.part("promise 24");
        p24();
        Due.part("promise 25");
        p25();
        Due.part("promise 26");
        p26();
        Due.part("promise 27");
        p27();
        p27laws();
        Due.part("promise 28");
        p28();
        Due.part("promises 29, 30");
        p29and30();
        Due.part("promise 31");
        p31();
        Due.part("promises 32, 33, 34");
        p32to34();
        Due.part("promise 35");
        p35();
        Due.part("promise 36");
        p36();
        Due.part("promises 37, 38");
        p37and38();
        p37draws();
        p37line();
        Due.part("promises 39, 40");
        p39and40();
        Due.part("promise 41");
        p41();
        Due.part("promise 42");
        p42();
        Due.finish("PromiseTest");
    }
}
