/** Promises 20 to 25: words. */
public final class WordsTest {
    private static final int[] NO_NUMBERS = {Integer.MIN_VALUE, -3, -2, Integer.MAX_VALUE};

    public static void main(String[] args) {
        type();
        clear();
        says();
        faults();
        faultsOfNumbers();
        faultsByVillages();
        longAnswers();
        answer();
        told();
        digest();
        Check.end();
    }

    private static void type() {
        RoadDepots x = new RoadDepots();
        Check.due("20: type(0)", x.type(0), 1);
        Check.due("20: type(127)", x.type(127), 2);
        Check.due("20: type(128)", x.type(128), -2);
        Check.due("20: type(-1)", x.type(-1), -2);
        for (int bad : NO_NUMBERS) {
            Check.due("20: type(" + bad + ")", x.type(bad), -2);
        }
        Check.due("20: how often BAD", x.told(0), 6);
        for (int n = 3; n <= 120; n++) {
            Check.due("20: type(97) as byte " + n, x.type(97), n);
        }
        Check.due("20: type(97) behind 120", x.type(97), -4);
        Check.due("20: type(128) behind 120", x.type(128), -2);
        Check.due("20: how often FULL", x.told(2), 1);
        Check.due("20: bytes", x.told(3), 120);
        RoadDepots full = new RoadDepots();
        StringBuilder most = new StringBuilder();
        for (int i = 0; i < 30; i++) {
            most.append("all;");
        }
        Check.due("20: 120 bytes are all read", Check.say(full, most.toString()), 30);
        Check.due("20: and answered", full.answer(-1), 59);
        Check.fault(full, most.substring(0, 119) + "l", 116);
        Check.fault(full, most.substring(0, 119) + " ", 120);
        Check.fault(full, most.substring(0, 116) + "open", 120);
    }

    private static void clear() {
        RoadDepots x = new RoadDepots();
        Check.said(x, "open 0;all;", "1 0");
        Check.due("21: clear()", x.clear(), 11);
        Check.due("21: clear() again", x.clear(), 0);
        Check.due("21: bytes", x.told(3), 0);
        Check.dueText("21: the answer stays", Check.line(x), "1 0");
        Check.due("21: type(97)", x.type(97), 1);
        Check.due("21: says() of the new text alone", x.says(), -10);
    }

    private static void says() {
        RoadDepots x = new RoadDepots();
        Check.said(x, "near 0;all;sum 0;within 0 99;far 0 0;way 0 0;", "- - 0 0 0 0");
        Check.said(x, "add 0 3;add 0 4;add 1 5;add 1 6;add 2 7;add 2 8;add 3 9;add 3 10;", "1 2 3 4 5 6 7 8");
        Check.said(x, "open 7;open 7;open 3;open 5;shut 7;shut 7;open 7;", "1 0 1 1 1 0 1");
        Check.said(x, "all;near 0;near 2;near 7;sum 2;within 0 10;within 0 17;within 5 0;", "3,5,7 3@8 5@7 7@0 40 1 3 1");
        Check.said(x, "far 7 0;far 6 8;way 7 0;way 6 8;way 4 4;", "17 30 7>3>1>0 6>2>0>1>3>8 4");
        Check.said(x, "road 1 50;far 8 0;road 1 99;road 1 3;", "3 65 50 99");
        Check.due("22: what was said stands", x.of(1, 1), 3);
        Check.due("22: the text stays, and is said again", x.says(), 4);
        Check.dueText("22: said again", Check.line(x), "3 65 50 99");
        saysWithBlanks();
    }

    private static void saysWithBlanks() {
        RoadDepots x = Check.nineVillages();
        Check.open(x, 3, 5, 7);
        Check.said(x, "  add0 5 ;open   9;far9 0  ;way 09 00;all;  ", "9 1 5 9>0 3,5,7,9");
        Check.said(x, "within0 0;within 9 00;sum 3;", "0 1 41");
        Check.due("22: nothing is refused by words", x.told(0) + x.told(1) + x.told(2), 0);
        Check.due("22: villages", x.told(4), 10);
        Check.due("22: open", x.told(5), 4);
    }

    private static void faults() {
        RoadDepots x = new RoadDepots();
        Check.said(x, "open 0;", "1");
        Check.fault(x, "", 0);
        Check.fault(x, "open 0", 6);
        Check.fault(x, "   ", 3);
        Check.fault(x, "all", 3);
        Check.fault(x, "all  ", 5);
        Check.fault(x, "all;all", 7);
        Check.fault(x, "open", 4);
        Check.fault(x, "open 0", 6);
        Check.fault(x, "far 0", 5);
        Check.fault(x, "far 0 ", 6);
        Check.fault(x, "far 0 0", 7);
        Check.fault(x, ";", 0);
        Check.fault(x, " ;", 1);
        Check.fault(x, "all;;", 4);
        Check.fault(x, "al;", 0);
        Check.fault(x, "al", 0);
        Check.fault(x, "alll;", 0);
        Check.fault(x, "allz;", 0);
        Check.fault(x, "ball;", 0);
        Check.fault(x, "ill;", 0);
        Check.fault(x, "rear 0;", 0);
        Check.fault(x, "all;  opens 0;", 6);
        Check.fault(x, "All;", 0);
        Check.fault(x, "allX;", 3);
        Check.fault(x, "5;", 0);
        Check.fault(x, "all 0;", 4);
        Check.fault(x, "all0;", 3);
        Check.fault(x, "all all;", 4);
        Check.fault(x, "open;", 4);
        Check.fault(x, "open open;", 5);
        Check.fault(x, "open 0 0;", 7);
        Check.fault(x, "open 0all;", 6);
        Check.fault(x, "far 0;", 5);
        Check.fault(x, "far 0,0;", 5);
        Check.fault(x, "far 0 -0;", 6);
        Check.fault(x, "far00;", 5);
        Check.fault(x, "all\t;", 3);
        Check.fault(x, "\nall;", 0);
        Check.fault(x, "all;" + (char) 0, 4);
        Check.fault(x, "shut 0;add 0 5;all;x", 19);
        Check.dueText("22: the answer stays", Check.line(x), "1");
        Check.due("22: nothing was done", x.told(4), 1);
        Check.due("22: 0 is still open", x.of(0, 2), 1);
        Check.due("22: nothing counts", x.told(0) + x.told(1) + x.told(2), 0);
    }

    private static void faultsOfNumbers() {
        RoadDepots x = new RoadDepots();
        Check.fault(x, "add 0 0;", 6);
        Check.fault(x, "add 0 00;", 6);
        Check.fault(x, "add 0 100;", 6);
        Check.fault(x, "add 0 001;", 6);
        Check.fault(x, "add 000 1;", 4);
        Check.fault(x, "add 0 11111111111111111111111111111111111111111111;", 6);
        Check.fault(x, "within 0 100;", 9);
        Check.fault(x, "within 0 4294967296;", 9);
        Check.fault(x, "road 0 5;", 5);
        Check.fault(x, "road 1 5;", 5);
        Check.said(x, "add 00 01;road 01 99;add 0 99;within 0 99;", "1 1 2 0");
        Check.fault(x, "road 1 0;", 7);
        Check.fault(x, "road 1 100;", 7);
        Check.fault(x, "road 1 2 3;", 9);
        Check.fault(x, "road 1;", 6);
        Check.fault(x, "add 3 1;", 4);
        Check.fault(x, "open 3;", 5);
        Check.fault(x, "shut 3;", 5);
        Check.fault(x, "road 3 1;", 5);
        Check.fault(x, "near 3;", 5);
        Check.fault(x, "far 3 0;", 4);
        Check.fault(x, "far 0 3;", 6);
        Check.fault(x, "way 3 0;", 4);
        Check.fault(x, "way 0 3;", 6);
        Check.fault(x, "within 3 5;", 7);
        Check.fault(x, "sum 3;", 4);
        Check.fault(x, "sum 3", 4);
        Check.fault(x, "sum 99;", 4);
    }

    private static void faultsByVillages() {
        RoadDepots x = new RoadDepots();
        Check.fault(x, "open 1;add 0 5;", 5);
        Check.said(x, "add 0 5;open 1;add 1 6;way 2 0;", "1 1 2 2>1>0");
        Check.fault(x, "add 0 5;open 3;open 4;", 20);
        Check.due("22: the add was not done", x.told(4), 3);
        for (int v = 3; v < 59; v++) {
            x.add(0, 1);
        }
        Check.fault(x, "add 0 1; add 59 1;", 9);
        Check.fault(x, "add 0 1;add", 8);
        Check.said(x, "add 0 1;open 59;", "59 1");
        Check.fault(x, "add 0 1;", 0);
        Check.fault(x, "all;  add 99 1;", 6);
        Check.due("22: FULL does not count by words", x.told(2), 0);
    }

    private static void longAnswers() {
        RoadDepots x = Check.row(60, 99);
        StringBuilder way = new StringBuilder("0");
        for (int v = 1; v < 60; v++) {
            way.append('>').append(v);
        }
        String one = way.toString();
        Check.said(Check.row(60, 99), "way 0 59;far 0 59;", one + " 5841");
        String all = one + " " + one + " " + one;
        Check.due("22: says of three ways", Check.say(x, "way 0 59;way 0 59;way 0 59;open 7;"), 4);
        Check.dueText("22: cut at 400 signs", Check.line(x), all.substring(0, 400));
        RoadDepots y = Check.row(60, 99);
        Check.say(y, "way 0 59;way 0 59;way 0 59;open 7;");
        Check.due("22: what is left out is done", y.of(7, 2), 1);
        Check.due("22: answer(399)", y.answer(399), all.charAt(399));
        Check.due("22: answer(400)", y.answer(400), -5);
        Check.due("22: told(6)", y.told(6), 400);
        Check.said(y, "all;", "7");
        for (int v = 0; v < 60; v++) {
            y.depot(v, 1);
        }
        Check.said(y, "sum 0;sum 59;all;", "175230 175230 " + one.replace('>', ','));
    }

    private static void answer() {
        RoadDepots x = new RoadDepots();
        Check.due("23: answer(-1) at first", x.answer(-1), 0);
        Check.due("23: answer(0) at first", x.answer(0), -5);
        Check.said(x, "open 0;near 0;", "1 0@0");
        Check.due("23: answer(-1)", x.answer(-1), 5);
        Check.due("23: answer(0)", x.answer(0), 49);
        Check.due("23: answer(1)", x.answer(1), 32);
        Check.due("23: answer(3)", x.answer(3), 64);
        Check.due("23: answer(4)", x.answer(4), 48);
        Check.due("23: answer(5)", x.answer(5), -5);
        Check.due("23: answer(most)", x.answer(Integer.MAX_VALUE), -5);
        Check.due("23: answer(-2)", x.answer(-2), -10);
        Check.due("23: answer(least)", x.answer(Integer.MIN_VALUE), -10);
        Check.due("23: how often BAD, but not -5", x.told(0), 2);
        Check.said(x, "all;", "0");
        Check.due("23: what was behind it is gone", x.answer(1), -5);
    }

    private static void told() {
        RoadDepots x = Check.row(60, 1);
        Check.open(x, 3, 4, 5);
        Check.said(x, "all;", "3,4,5");
        x.add(0, 1);
        x.add(0, 1);
        x.way(99, 0, 0);
        int[] due = {1, 0, 2, 4, 60, 3, 5};
        for (int what = 0; what < due.length; what++) {
            Check.due("24: told(" + what + ")", x.told(what), due[what]);
        }
        Check.due("24: told(7)", x.told(7), -2);
        Check.due("24: told(-1)", x.told(-1), -2);
        for (int bad : NO_NUMBERS) {
            Check.due("24: told(" + bad + ")", x.told(bad), -2);
        }
        Check.due("24: how often BAD", x.told(0), 7);
    }

    private static void digest() {
        RoadDepots x = new RoadDepots();
        isDigest("new", x, 0, 0, 0, 0, 1, 0, 0, -1, 0, 0);
        x.add(0, 7);
        x.add(1, 9);
        x.depot(1, 1);
        Check.say(x, "near 2;");
        x.told(9);
        isDigest("three villages", x, 1, 0, 0, 7, 3, 1, 3, -1, 0, 0, 0, 7, 1, 1, 9, 0, '1', '@', '9');
        x.anew();
        x.clear();
        isDigest("anew", x, 1, 0, 0, 0, 1, 0, 3, -1, 0, 0, '1', '@', '9');
        Check.due("25: a number told", new RoadDepots().digest(), 1636797689129287787L);
    }

    private static void isDigest(String name, RoadDepots x, long... values) {
        long h = 1997;
        for (long v : values) {
            h = 31 * h + v;
        }
        Check.due("25: " + name, x.digest(), h);
        Check.due("25: " + name + ", again", x.digest(), h);
    }
}
