import java.io.IOException;
import java.nio.file.Path;

/** The edges that the document's Terms II name, sentence by sentence: the tape, texts, laws, orders. */
public final class TextsEdgeTest {
    private static final int NONE = Edge.NONE;
    private static final String BILLION = "1000*1000*1000";

    private TextsEdgeTest() { }

    private static void law(String text, int fault) {
        WashLine x = new WashLine();
        Due.is("law " + text, Due.law(x, text), fault == NONE ? 0 : -6);
        Due.is("fault() of law " + text, x.fault(), fault);
        Due.is("count(4) behind law " + text, x.count(4), fault == NONE ? 1 : 0);
        Due.is("count(6) behind law " + text, x.count(6), 0);
    }

    private static int orders(String text, int fault) {
        WashLine x = new WashLine();
        int ran = Due.orders(x, text);
        Due.holds("orders " + text, ran == -6 == (fault != NONE));
        Due.is("fault() of orders " + text, x.fault(), fault);
        Due.is("count(6) behind orders " + text, x.count(6), 0);
        return ran;
    }

    private static void both(String rest, int fault) {
        law("goes " + rest, fault == NONE ? NONE : 5 + fault);
        orders("hang " + rest, fault == NONE ? NONE : 5 + fault);
    }

    private static void tape() {
        WashLine x = new WashLine();
        Due.is("none at first", x.count(6), 0);
        for (int k = 1; k <= 20; k++) {
            Due.is("feed", x.feed(0, 0, 0, 0, 0), 20 * k);
        }
        Due.is("more than 400", x.feed(0, 0, 0, 0, 0), NONE);
        Due.is("none of them came", x.count(6), 400);
        Due.is("end(399)", x.end(399), 399);
        Due.is("more than 400", x.feed(0, 0, 0, 0, 0), NONE);
        Due.is("end(381)", x.end(381), 381);
        Due.is("more than 400", x.feed(0, 0, 0, 0, 0), NONE);
        Due.is("none of them came", x.count(6), 381);
        Due.is("end(380)", x.end(380), 380);
        Due.is("just 400", x.feed(0, 0, 0, 0, 0), 400);
        law("goes 1" + "+1".repeat(49) + " ".repeat(400 - 104), NONE);
        law("goes 1" + "+1".repeat(49) + " ".repeat(400 - 105) + "]", 399);
        law("bars if " + "not ".repeat(97) + "1=1 ", NONE);
        law(" ".repeat(400), 400);
        law(" ".repeat(396) + "bars", NONE);
        law(" ".repeat(395) + "bars;", 400);
        law("(".repeat(400), 0);
        law("a".repeat(400), 0);
        law("goes " + "0".repeat(395), NONE);
        law("goes " + "0".repeat(394) + "1", NONE);
    }

    private static void tokens() {
        law("goes1", NONE);
        law("goes1if1=1;bars", NONE);
        law("goesx 1", 0);
        law("goesz 1", 0);
        law("goesa 1", 0);
        law("bars if day=1 andz day=1", 14);
        law("go es 1", 0);
        law("goes 1 0", 7);
        law("goes 1if", 8);
        law("goes 12ifx=1", 7);
        law("bars ifday=1", 5);
        law("bars if day=1andday=1", 13);
        law("bars if day=1and day=1", NONE);
        law("bars if not1=1", NONE);
        law("bars if notday=1", 8);
        law("bars if(day=1)", NONE);
        law("   bars   if   day   =   1   ;   bars   ", NONE);
        law("bars if day < = 1", 14);
        law("Bars", 0);
        law("bArs", 0);
        law("bars ,", 5);
        law("bars\n", 4);
        law("bars\0", 4);
        law("bars" + (char) 255, 4);
        law("bars" + (char) 160 + ";", 4);
        law("`", 0);
        law("{", 0);
        law("goes /", 5);
        law("goes :", 5);
        orders("pass times20", NONE);
        orders("passtimes 20", 0);
        orders("sail cell0", NONE);
        orders("hang 0times 2if 1=1", NONE);
    }

    private static void twelveClauses() {
        law("bars", NONE);
        law("bars" + ";bars".repeat(11), NONE);
        law("bars" + ";bars".repeat(12), 60);
        law("bars" + " ; bars".repeat(12), 4 + 11 * 7 + 3);
        law("bars" + ";bars".repeat(11) + ";", 60);
        law("bars" + ";bars".repeat(11) + ";  ", 62);
        law("bars" + ";bars".repeat(11) + ";x", 60);
        law("bars;", 5);
        law(";bars", 0);
        law("bars;;bars", 5);
        Due.is("12 are run", orders("pass" + ";pass".repeat(11), NONE), 12);
        orders("pass" + ";pass".repeat(12), 60);
        orders("pass" + ";pass".repeat(11) + ";", 60);
        WashLine x = new WashLine();
        x.ship(0, 0, 0);
        Edge.force(x, "bars if means=0" + ";bars if means=1".repeat(10) + ";goes 4");
        Due.is("the first", x.asks(0, 0, 2), 1);
        Due.is("the twelfth", x.asks(0, 0, 1), 4);
    }

    private static void numbers() {
        both("0", NONE);
        both("1000", NONE);
        both("1001", 0);
        both("9999", 0);
        both("01000", NONE);
        both("000000000000000000000000000001", NONE);
        both("4294967296", 0);
        both("4294967297", 0);
        both("99999999999999999999999999999999", 0);
        both("1+1001", 2);
        both("-1", 0);
        law("bars if 1001=1001", 8);
        WashLine x = new WashLine();
        x.ship(0, 0, 0);
        Edge.force(x, "bars if 1000 = 999 + 1; goes 003");
        Due.is("1000", x.asks(0, 0, 2), 1);
        Due.is("003", x.asks(0, 0, 1), 3);
    }

    private static void parts() {
        String fifty = "1" + "+1".repeat(49);
        both(fifty, NONE);
        both(fifty + "+1", 100);
        both(fifty + "+day", 100);
        both(fifty + "+[1]", 101);
        both(fifty + "+]", 100);
        both("day" + "+day".repeat(49), NONE);
        both("day" + "+day".repeat(50), 200);
        law("goes " + fifty + ";bars", NONE);
        law("goes " + fifty + ";goes 1", 5 + 99 + 6);
        law("goes " + fifty + " if 1=1", 5 + 99 + 4);
        law("goes 1" + ";goes 1".repeat(11), NONE);
        law("bars if 1" + "+1".repeat(48) + "=1", NONE);
        law("bars if 1" + "+1".repeat(49) + "=1", 8 + 99 + 1);
        law("bars if 1=1" + " or 1=1".repeat(24), NONE);
        law("bars if 1=1" + " or 1=1".repeat(25), 11 + 24 * 7 + 4);
        orders("pass times 20" + ";pass times 20".repeat(11), NONE);
        orders("hang " + fifty + " times 2", NONE);
        orders("hang " + fifty + "; pass times 2; take", NONE);
        orders("hang cell 0" + "+cell 0".repeat(49), NONE);
        orders("hang cell 0" + "+cell 0".repeat(49) + "+ways", 11 + 49 * 7 + 1);
        WashLine x = new WashLine();
        x.image(0);
        for (int k = 0; k < 12; k++) {
            Due.is("50 in each text", Due.law(x, "goes " + fifty), 0);
            Due.is("50 in each text", Due.orders(x, "pass if " + fifty.substring(4) + " = 0"), 0);
            Due.is("50 in each text", Due.orders(x, "pass if " + fifty.substring(4) + " = 48"), 1);
            Due.is("51 in one", Due.law(x, "goes " + fifty + "+1"), -6);
            x.back(0);
        }
    }

    private static void brackets() {
        for (int n = 1; n < 12; n++) {
            int fault = n > 8 ? 8 : NONE;
            both("[".repeat(n) + "1" + "]".repeat(n), fault);
            law("bars if " + "(".repeat(n) + "1=1" + ")".repeat(n), fault == NONE ? NONE : 16);
            orders("pass if " + "(".repeat(n) + "1=1" + ")".repeat(n), fault == NONE ? NONE : 16);
        }
        law("bars if ((((([[[1]]]=1)))))", NONE);
        law("bars if ((((([[[[1]]]]=1)))))", 16);
        law("bars if ((((((((1=[1]))))))))", 8 + 10);
        law("bars if ((((((((1=1 or (1=1)))))))))", 8 + 8 + 7);
        law("bars if (not (not (not (not (not (not (not (not 1=1))))))))", NONE);
        law("bars if not (not (not (not (not (not (not (not (not (1=1)))))))))", 8 + 4 + 8 * 5);
        both("[1]" + "+[1]".repeat(20), NONE);
        law("goes [[[[[[[[1]]]]]]]] if ((((((((1=1))))))))", NONE);
        law("goes [[[[[[[[1]+[1]]]]]]]]", NONE);
        both("[", 1);
        both("[1+", 3);
        both("[[", 2);
        both("1*[2-", 5);
        law("bars if (", 9);
        law("bars if ((", 10);
        law("bars if (1=1 and", 16);
        law("bars if (not", 12);
        law("bars if [", 9);
        law("bars if 1=[", 11);
        both("[1", 2);
        both("[1)", 2);
        both("[]", 1);
        both("[[1]", 4);
        both("[1]]", 3);
        both("(1)", 0);
        law("bars if (1=1", 12);
        law("bars if (1=1]", 12);
        law("bars if ()", 9);
        law("bars if (1=1))", 13);
        law("bars if (1)", 10);
        law("bars if ([1]=1)", NONE);
        law("bars if (1)=1", 10);
    }

    private static void faults() {
        law("", 0);
        law(" ", 1);
        law("goes", 4);
        law("goes   ", 7);
        law("weighs 1 +", 10);
        law("weighs 1 + ", 11);
        law("weighs 1 + +", 11);
        law("weighs 1 weighs 1", 9);
        law("weighs if", 7);
        law("bars 1", 5);
        law("bars if", 7);
        law("bars if if", 8);
        law("bars if 1", 9);
        law("bars if 1 <", 11);
        law("bars if 1 < 2 <", 14);
        law("bars if 1 < 2 or", 16);
        law("bars if 1 < 2 or or", 17);
        law("bars if or", 8);
        law("bars if not", 11);
        law("bars if not not", 15);
        law("bars if 1 < 2 if 1 < 2", 14);
        law("bars times 2", 5);
        law("hang 1", 0);
        law("goes hung", 5);
        law("goes weighs", 5);
        law("goes cell 0", 10);
        orders("", 0);
        orders("  ", 2);
        orders("hang", 4);
        orders("sail", 4);
        orders("take 0", 5);
        orders("pass 0", 5);
        orders("goes 1", 0);
        orders("hang mood", 5);
        orders("hang hang", 5);
        orders("pass if 1=1 times 2", 12);
        orders("pass times 2 times 2", 13);
        orders("pass if 1=1 if 1=1", 12);
    }

    private static void beyond() {
        Due.is("1,000,000,000", Edge.so(BILLION + " = " + BILLION), 1);
        Due.is("1 more", Edge.so(BILLION + "+1 > 0"), 0);
        Due.is("not of 1 more", Edge.so("not " + BILLION + "+1 < 0"), 0);
        Due.is("1,000,000,000 below", Edge.so("0-" + BILLION + " < 0"), 1);
        Due.is("1 more below", Edge.so("0-" + BILLION + "-1 < 0"), 0);
        Due.is("not of 1 more below", Edge.so("not 0-" + BILLION + "-1 > 0"), 0);
        Due.is("1 more on the way", Edge.so(BILLION + "+1-1 > 0"), 0);
        Due.is("1 less on the way", Edge.so(BILLION + "-1+1 = " + BILLION), 1);
        Due.is("a product", Edge.so(BILLION + "*2 > 0"), 0);
        Due.is("a product below", Edge.so("0-" + BILLION + "*2 < 0"), 0);
        Due.is("2 to the 64th times", Edge.so("512" + "*512".repeat(8) + " = 0"), 0);
        Due.is("beyond a long", Edge.so("[" + BILLION + "]*[" + BILLION + "]*[" + BILLION + "] > 0"), 0);
        Due.is("0 times what is broken", Edge.so("0*[" + BILLION + "*2] = 0"), 0);
        Due.is("what is broken less itself", Edge.so("1/0 = 1/0"), 0);
        Due.is("/ 0", Edge.so("1/0 > 0"), 0);
        Due.is("not / 0", Edge.so("not 1/0 > 0"), 0);
        Due.is("0 / 0", Edge.so("0/0 = 0"), 0);
        Due.is("% 0", Edge.so("1%0 = 1"), 0);
        Due.is("not % 0", Edge.so("not 1%0 = 1"), 0);
        Due.is("/ a sum of 0", Edge.so("1/[day-day] = 0"), 0);
        Due.is("0 / 1", Edge.so("0/1 = 0 and 0%1 = 0"), 1);
        WashLine x = new WashLine();
        x.ship(0, 0, 0);
        x.sign(1, 0);
        Edge.force(x, "weighs 8; weighs 1/0; weighs " + BILLION + "; goes 3; goes 1%0; goes 0-" + BILLION + "-1");
        Due.is("weighs 1,000,000,000: 99", x.asks(0, 0, 0), 99);
        Due.is("goes what holds", x.asks(0, 0, 1), 3);
        Due.is("hang of what is broken", orders("hang 1/0", NONE), -3);
        Due.is("hang of what is broken", orders("hang 0*[1%0]", NONE), -3);
        Due.is("sail of what is broken", orders("sail 1/0", NONE), -3);
    }

    private static void divided() {
        String[] so = {"7/2 = 3", "[0-7]/2 = 0-3", "7/[0-2] = 0-3", "[0-7]/[0-2] = 3", "7%2 = 1", "[0-7]%2 = 0-1",
            "7%[0-2] = 1", "[0-7]%[0-2] = 0-1", "1/2 = 0", "[0-1]/2 = 0", "6%3 = 0", "[0-6]%3 = 0", "2%3 = 2",
            "10-4-3 = 3", "16/4/2 = 2", "7%5%2 = 0", "2*7%4 = 2", "7/2*2 = 6", "1+2*3 = 7", "[1+2]*3 = 9",
            "8-6/2 = 5", "3-4 < 0", "1000-1 = 999"};
        for (String test : so) {
            Due.is(test, Edge.so(test), 1);
            Due.is("not " + test, Edge.so("not " + test), 0);
        }
    }

    private static void matters() {
        String broken = "1/0 = 0";
        Due.is("so or broken", Edge.so("1=1 or " + broken), 1);
        Due.is("not so or broken", Edge.so("1=2 or " + broken), 0);
        Due.is("not (not so or broken)", Edge.so("not (1=2 or " + broken + ")"), 0);
        Due.is("broken or so", Edge.so(broken + " or 1=1"), 0);
        Due.is("not so and broken", Edge.so("not (1=2 and " + broken + ")"), 1);
        Due.is("so and broken", Edge.so("not (1=1 and " + broken + ")"), 0);
        Due.is("broken and not so", Edge.so("not (" + broken + " and 1=2)"), 0);
        Due.is("the third", Edge.so("1=2 or 1=1 or " + broken), 1);
        Due.is("the third", Edge.so("not (1=1 and 1=2 and " + broken + ")"), 1);
        Due.is("the second of three", Edge.so("1=2 or " + broken + " or 1=1"), 0);
        Due.is("so or (broken and broken)", Edge.so("1=1 or " + broken + " and " + broken), 1);
        Due.is("not so and broken or so", Edge.so("1=2 and " + broken + " or 1=1"), 1);
        Due.is("(not so and broken) or not so", Edge.so("not (1=2 and " + broken + " or 1=2)"), 1);
        Due.is("so or broken, and so", Edge.so("(1=1 or " + broken + ") and 1=1"), 1);
        Due.is("not (so or broken) or so", Edge.so("not (1=1 or " + broken + ") or 1=1"), 1);
        Due.is("both sides of < are asked", Edge.so("not 2 < 1/0"), 0);
        Due.is("both sides of = are asked", Edge.so("not 1/0 = 2"), 0);
        Due.is("and is closer than or", Edge.so("1=1 or 1=2 and 1=2"), 1);
        Due.is("and is closer than or", Edge.so("1=2 and 1=2 or 1=1"), 1);
        Due.is("not is closer than and", Edge.so("not 1=2 and 1=2"), 0);
        Due.is("not is closer than or", Edge.so("not 1=1 or 1=1"), 1);
        Due.is("not not", Edge.so("not not 1=1"), 1);
        Due.is("not not not", Edge.so("not not not 1=1"), 0);
        Due.is("not (not)", Edge.so("not (not 1=1)"), 1);
        Due.is("not (not (not))", Edge.so("not (not (not 1=1))"), 0);
        Due.is("not (not (not (not)))", Edge.so("not (not (not (not 1=1)))"), 1);
        String[] notSo = {"1<1", "2<1", "1>1", "1>2", "1=2", "0=1"};
        for (String test : notSo) {
            Due.is(test, Edge.so(test), 0);
            Due.is("not " + test, Edge.so("not " + test), 1);
        }
    }

    // ---- laws

    private static void sixLaws() {
        WashLine x = Edge.ordinary();
        for (int k = 0; k < 6; k++) {
            Due.is("no such law yet", x.force(k), -2);
            Due.is("nor to compare", x.compare(k, 0), NONE);
            Due.is("law " + k, Due.law(x, "weighs " + k), k);
        }
        Due.is("a seventh", Due.law(x, "weighs 6"), -5);
        Due.is("count(4)", x.count(4), 6);
        Due.is("force(6)", x.force(6), -2);
        x.hang(0);
        for (int k = 0; k < 6; k++) {
            Due.is("compare(" + k + ", 0)", x.compare(k, 0), k);
        }
    }

    private static void noneAtFirst() {
        WashLine x = Edge.ordinary();
        Due.is("count(12)", x.count(12), NONE);
        Due.law(x, "weighs 9; goes 3; bars");
        Due.is("count(12)", x.count(12), NONE);
        Due.is("no clause: weighs", x.asks(0, 3, 0), 2);
        Due.is("no clause: goes", x.asks(0, 0, 1), 1);
        Due.is("no clause: bars", x.asks(0, 0, 2), 0);
        x.force(0);
        Due.is("weighs", x.asks(0, 3, 0), 9);
        Due.is("goes", x.asks(0, 0, 1), 3);
        Due.is("bars", x.asks(0, 0, 2), 1);
        x.force(NONE);
        Due.is("no clause: weighs", x.asks(0, 3, 0), 2);
        Due.is("no clause: goes", x.asks(0, 0, 1), 1);
        Due.is("no clause: bars", x.asks(0, 0, 2), 0);
    }

    private static void minusOne() {
        WashLine x = Edge.ordinary("goes 3 if sign = 0-1 and long = 0-1 and means = 0; bars if sign = 0-1 and long = 0-1 and means = 4");
        Due.is("goes", x.asks(0, 3, 1), 3);
        Due.is("bars", x.asks(0, 4, 2), 1);
        Due.is("behind weighs too", x.asks(0, 3, 0), 2);
        Due.is("goes", x.asks(0, 3, 1), 3);
        Due.is("behind weighs too", x.asks(0, 2, 0), 2);
        Due.is("bars", x.asks(0, 4, 2), 1);
        x.hang(0);
        Due.is("at sea", x.where(0, 0), 15);
        WashLine y = Edge.ordinary("weighs 50 if sign = 0-1 or long = 0-1 or means = 0-1");
        for (int k = 0; k < 4; k++) {
            Due.is("weighs is asked of a sign", y.asks(0, k, 0), k < 2 ? 1 : 2);
        }
    }

    private static void aheadOfTheLine() {
        WashLine x = Edge.ordinary("weighs 10 if sign = 2 and powder = 3; weighs 10 if sign < 2 and cell > 0; goes cell + 1");
        Edge.hang(x, 0, 1, 0, 1);
        Due.is("weighs as it is ahead of the line", x.reads(0, NONE), 4);
        Due.is("goes as it is then: 1 to cell 5, then 4 to the edge", x.where(0, 0), 9);
        WashLine y = Edge.ordinary("bars if powder = 2");
        Edge.force(y, "bars if powder = 2; weighs 3 - long");
        Edge.hang(y, 0, 1, 0, 1, 0);
        y.sail(0);
        Edge.ship("bars as it is then", y, 0, 0, 0, 2);
        WashLine z = Edge.ordinary("goes 2 if cell = 0; goes 0 if cell = 10");
        Edge.hang(z, 0, 0, 0);
        z.sail(0);
        Edge.ship("goes as it is then", z, 0, 10, 0, 3);
    }

    private static void lawWords() {
        WashLine x = Edge.ordinary("weighs ship; weighs sign + 10 if sign > 0; weighs long * 20 if long = 2; weighs 30 + means if means = 3");
        x.ship(24, 0, 9);
        x.ship(0, 0, 0);
        for (int ship = 0; ship < 3; ship++) {
            int[] due = {ship, 11, 40, 33};
            for (int sign = 0; sign < 4; sign++) {
                Due.is("weighs " + sign + " for " + ship, x.asks(ship, sign, 0), due[sign]);
            }
        }
        Edge.force(x, "weighs cell * 2; bars if powder = 9; bars if powder = 0 and ship = 2; goes day - 997; goes mood if mood < 9");
        Due.is("cell 24", x.asks(1, 0, 0), 48);
        Due.is("cell 0", x.asks(2, 0, 0), 0);
        Due.is("powder 9", x.asks(1, 0, 2), 1);
        Due.is("powder 0", x.asks(2, 5, 2), 1);
        Due.is("powder 3", x.asks(0, 5, 2), 0);
        x.terms(2, 2);
        Due.is("mood 2", x.asks(0, 0, 1), 2);
        x.terms(2, 9);
        x.terms(0, 999);
        Due.is("mood 9, day 999", x.asks(0, 0, 1), 2);
        x.terms(0, 998);
        Due.is("mood 9, day 998", x.asks(0, 0, 1), 1);
        x.terms(2, 0);
        Due.is("mood 0", x.asks(0, 0, 1), 0);
    }

    private static void holds() {
        WashLine x = Edge.ordinary("weighs 7; weighs 8 if 1=2; weighs 9 if 1/0=1; weighs 5/0; weighs 6/0 if 1=1");
        Due.is("the last that holds is the first", x.asks(0, 0, 0), 7);
        x = Edge.ordinary("weighs 7; weighs 8 if 1=1; bars; goes 2");
        Due.is("the last that holds is the second", x.asks(0, 0, 0), 8);
        x = Edge.ordinary("weighs 7 if sign=0; weighs 0 if sign=1");
        Due.is("holds for one sign", x.asks(0, 0, 0), 7);
        Due.is("0 is told, too", x.asks(0, 1, 0), 0);
        Due.is("without: how long", x.asks(0, 2, 0), 2);
        x = Edge.ordinary("goes 0; goes 4 if 1=2");
        Due.is("0 is told, too", x.asks(0, 0, 1), 0);
        x = Edge.ordinary("bars if 1/0=1; bars if 1=2");
        Due.is("neither holds", x.asks(0, 0, 2), 0);
        x = Edge.ordinary("bars if 1=1; bars if 1=2");
        Due.is("one holds", x.asks(0, 0, 2), 1);
    }

    private static void nearest() {
        String[] sums = {"0-1000*1000*1000", "0-1", "0", "1", "98", "99", "100", "1000*1000*1000"};
        int[] weighs = {0, 0, 0, 1, 98, 99, 99, 99};
        for (int k = 0; k < sums.length; k++) {
            Due.is("weighs " + sums[k], Edge.ordinary("weighs " + sums[k]).asks(0, 0, 0), weighs[k]);
        }
        Due.is("its long without", Edge.ordinary().asks(0, 2, 0), 2);
        Due.is("its long without", Edge.ordinary("goes 3").asks(0, 2, 0), 2);
    }

    private static void goes() {
        String[] sums = {"0-1000*1000*1000", "0-1", "0", "1", "3", "4", "5", "1000*1000*1000"};
        int[] goes = {0, 0, 0, 1, 3, 4, 4, 4};
        for (int k = 0; k < sums.length; k++) {
            Due.is("goes " + sums[k], Edge.ordinary("goes " + sums[k]).asks(0, 0, 1), goes[k]);
        }
        Due.is("1 without", Edge.ordinary().asks(0, 0, 1), 1);
        Due.is("1 without", Edge.ordinary("weighs 3").asks(0, 0, 1), 1);
    }

    // ---- orders

    private static void times() {
        Due.is("once without", orders("pass", NONE), 1);
        Due.is("1", orders("pass times 1", NONE), 1);
        Due.is("20", orders("pass times 20", NONE), 20);
        Due.is("020", orders("pass times 020", NONE), 20);
        orders("pass times 0", 11);
        orders("pass times 21", 11);
        orders("pass times 1001", 11);
        orders("pass times 4294967297", 11);
        orders("pass times -1", 11);
        orders("pass times day", 11);
        orders("pass times [1]", 11);
        orders("pass times 1+1", 12);
        orders("pass times", 10);
        orders("hang 0 times 0", 13);
        orders("hang 0 times 21", 13);
        Due.is("12 cloths", orders("hang 0 times 12", NONE), 12);
        Due.is("a thirteenth", orders("hang 0 times 13", NONE), -3);
    }

    private static void numberedShips() {
        for (String word : new String[] {"cell ", "powder "}) {
            int at = 5 + word.length();
            for (int s = 0; s < 3; s++) {
                orders("hang " + word + s, NONE);
            }
            orders("hang " + word + "002", NONE);
            orders("hang " + word + "3", at);
            orders("hang " + word + "1001", at);
            orders("hang " + word + "4294967296", at);
            orders("hang " + word + "day", at);
            orders("hang " + word + "[0]", at);
            orders("hang " + word + "-1", at);
            orders("hang " + word + "+ 1", at);
            orders("hang " + word + "0 0", at + 2);
            orders("hang " + word, at);
        }
    }

    private static void askedEachTime() {
        WashLine x = new WashLine();
        Due.is("as long as it is so", Due.orders(x, "pass times 20 if day < 7"), 7);
        Due.is("day", x.count(13), 7);
        Due.is("not so: not run", Due.orders(x, "pass if day < 7"), 0);
        Due.is("broken: not run", Due.orders(x, "pass if 1/0 = 1"), 0);
        Due.is("broken on the third day", Due.orders(x, "pass times 5 if 9/[9 - day] > 0"), 2);
        Due.is("day", x.count(13), 9);
        Due.is("the sum behind the if", Due.orders(x, "hang 1/0 if 1=2; hang 7 if 1/0=1"), 0);
        Due.is("the sum each time", Due.orders(x, "hang hung times 4"), 4);
        for (int k = 0; k < 4; k++) {
            Due.is("line(" + k + ")", x.line(k), k);
        }
        Due.is("clause by clause", Due.orders(x, "take; hang 1; pass"), 3);
        Due.is("line(3)", x.line(3), 1);
    }

    private static void words() {
        WashLine x = Edge.ordinary();
        Due.is("no sail yet: latest is -1", Due.orders(x, "pass if latest = 0-1"), 1);
        Due.is("a sail without signs: latest is 0", Due.orders(x, "sail 0; pass if latest = 0"), 2);
        Due.is("the latest sail in this text", Due.orders(x, "pass if latest = 0-1"), 1);
        Edge.hang(x, 0, 1);
        Due.is("latest: two signs", Due.orders(x, "sail 0; hang 2 times 2; sail 0; pass if latest = 3; take times 3; sail 0; pass if latest = 1"), 10);
        Due.is("done: none at first", Due.orders(x, "pass if done = 0; pass if done = 0; pass if done = 1"), 2);
        Due.is("done: those not run do not count", Due.orders(x, "pass times 5 if done < 3; pass if done = 3; pass if done = 4 and 1=2; pass if done = 4"), 5);
        Due.is("cell -1 without such a ship", Due.orders(x, "pass if cell 1 = 0-1 and cell 2 = 0-1"), 1);
        Due.is("powder -1 without such a ship", Due.orders(x, "pass if powder 1 = 0-1 and powder 2 = 0-1"), 1);
        x.ship(24, 0, 9);
        Due.is("cell 24", Due.orders(x, "pass if cell 1 = 24 and powder 1 = 9 and cell 2 = 0-1"), 1);
        Due.is("a cloth 24", Due.orders(x, "hang cell 1"), -3);
        WashLine y = new WashLine();
        Due.is("no cloths", Due.orders(y, "pass if hung = 0 and ways = 1 and day = 0 and cell 0 = 0-1 and powder 0 = 0-1"), 1);
        Due.is("no reading", Due.orders(y, "hang 0; pass if ways = 0 and hung = 1"), 2);
    }

    /** A clause that can't be, behind some that can: all must be as it was. */
    private static void stops(WashLine x, String clause) {
        String before = Edge.all(x);
        int had = x.count(9);
        Due.is(clause, Due.orders(x, "pass;hang 0;take;sail 0;" + clause), -3);
        Due.is(clause + ": which clause", x.stopped(), 4);
        Due.is(clause + ": refused", x.count(9), had + 1);
        String now = Edge.all(x);
        int last = before.lastIndexOf(' ');
        Due.holds(clause + ": all is as it was", before.substring(0, last).equals(now.substring(0, now.lastIndexOf(' '))));
    }

    private static void canNotBe() {
        for (String clause : new String[] {"hang 4", "hang 0-1", "hang 1/0", "sail 1", "sail 3", "sail 0-1", "sail 1/0", "hang 1000*1000*1000"}) {
            WashLine x = Edge.ordinary();
            x.pass();
            stops(x, clause);
            Due.is("that call was one", x.count(7) + x.count(8), 0);
            Due.is("what can be undone", x.undo(), 3);
        }
        WashLine x = Edge.ordinary();
        stops(x, "hang 3 times 13; pass");
        stops(x, "sail done - 4 times 5");
    }

    private static void endsAll() {
        WashLine x = Edge.ordinary();
        stopsAt(x, "take", 0);
        stopsAt(x, "hang 3; sail 0", 1);
        stopsAt(x, "hang 0 times 11; hang 0 times 2", 1);
        x.terms(0, 998);
        stopsAt(x, "pass; pass", 1);
        stopsAt(x, "pass times 2", 0);
        Due.is("the last day", Due.orders(x, "pass"), 1);
        stopsAt(x, "pass", 0);
        Due.is("stopped at the twelfth", Due.orders(x, "hang 0" + ";hang 0".repeat(10) + ";pass"), -3);
        Due.is("stopped()", x.stopped(), 11);
        Due.is("count(2)", x.count(2), 0);
        WashLine y = Edge.ordinary();
        for (int k = 0; k < 16; k++) {
            y.hang(k % 2);
            y.take();
        }
        Due.is("16 can be undone", y.count(5), 16);
        Due.is("more than are kept, then one that can't be", Due.orders(y, "hang 2; take; pass times 20; take"), -3);
        Due.is("16 can be undone", y.count(5), 16);
        for (int k = 0; k < 16; k++) {
            Due.is("each as it was", y.undo(), (k + 1) % 2);
            Due.is("each as it was", y.line(0), k % 2 == 0 ? 1 - k / 2 % 2 : NONE);
        }
        Due.is("undo()", y.undo(), -3);
    }

    private static void stopsAt(WashLine x, String text, int clause) {
        int day = x.count(13);
        Due.is(text, Due.orders(x, text), -3);
        Due.is("stopped() of " + text, x.stopped(), clause);
        Due.is("count(2) behind " + text, x.count(2), 0);
        Due.is("day behind " + text, x.count(13), day);
    }

    public static void main(String[] args) throws IOException {
        Path root = Path.of(args[0]);
        Edge.open(root, "II. TEXTS", "III. To HANG");
        Edge.is("TEXTS are on a TAPE of at most 400 bytes.", TextsEdgeTest::tape);
        Edge.is("TOKENS: longest rows of letters a .. z, of digits, single other bytes, any blanks (32) between.", TextsEdgeTest::tokens);
        Edge.is("CLAUSE {\";\" CLAUSE}, 12 at most (FAULT at the 13th's first TOKEN).", TextsEdgeTest::twelveClauses);
        Edge.is("NUMBER (to 1,000)", TextsEdgeTest::numbers);
        Edge.is("50 PARTS that are NUMBERS and words (FAULT at the 51st)", TextsEdgeTest::parts);
        Edge.is("8 brackets of both kinds within one another (FAULT at the 9th) at most.", TextsEdgeTest::brackets);
        Edge.is("FAULT: the first TOKEN that can't go on there (the end's: the TEXT's length).", TextsEdgeTest::faults);
        Edge.is("Beyond 1,000,000,000 either way, or divided by 0", TextsEdgeTest::beyond);
        Edge.is("(/ cut towards 0, % what is left then)", TextsEdgeTest::divided);
        Edge.is("(\"or\", \"and\" ask what stands behind only if it can still matter; a part that was asked and is BROKEN"
            + " makes all of it BROKEN)", TextsEdgeTest::matters);
        Edge.is("LAWS, 6 at most;", TextsEdgeTest::sixLaws);
        Edge.is("one is in FORCE (NONE at first: no CLAUSE)", TextsEdgeTest::noneAtFirst);
        Edge.is("sign, long -1; cell, powder: as it is then", TextsEdgeTest::minusOne);
        Edge.is("(cell, powder: of the SHIP, as it is ahead of the LINE)", TextsEdgeTest::aheadOfTheLine);
        Edge.is("is so, and neither that nor its SUM is BROKEN.", TextsEdgeTest::holds);
        Edge.is("Words: \"ship\" | \"sign\" | \"long\" | \"means\" | \"cell\" | \"powder\" | \"day\" | \"mood\".",
            TextsEdgeTest::lawWords);
        Edge.is("A SIGN WEIGHS 0 .. 99 for a SHIP as the last \"weighs\" that HOLDS tells (else the nearest), its LONG without;",
            TextsEdgeTest::nearest);
        Edge.is("AHEAD a SHIP GOES 0 .. 4 CELLS, 1 without;", TextsEdgeTest::goes);
        Edge.is("TIMES: a NUMBER 1 .. 20.", TextsEdgeTest::times);
        Edge.is("(S: a NUMBER 0 .. 2)", TextsEdgeTest::numberedShips);
        Edge.is("S, TIMES aside, NUMBERS and words count as PARTS.", TextsEdgeTest::parts);
        Edge.is("each time its \"if\" is asked (not run, if it is not so or BROKEN), then its SUMS from the left.",
            TextsEdgeTest::askedEachTime);
        Edge.is("(-1: none), hung: how many CLOTHS there are, ways: how many READINGS, cell, powder: -1 without such a SHIP.",
            TextsEdgeTest::words);
        Edge.is("One that can't be (a BROKEN SUM, as hang(), take(), sail(), pass() are REFUSED) ends it", TextsEdgeTest::canNotBe);
        Edge.is("ends it: all is as it was ahead of it.", TextsEdgeTest::endsAll);
        Due.finish("TextsEdgeTest");
    }
}
