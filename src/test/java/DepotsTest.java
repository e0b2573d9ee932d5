/** Promises 12 to 19: depots. */
public final class DepotsTest {
    private static final int[] NO_NUMBERS = {Integer.MIN_VALUE, -2, -1, Integer.MAX_VALUE};

    public static void main(String[] args) {
        nearest();
        turn();
        within();
        sum();
        left();
        more();
        serves();
        pair();
        fullLand();
        Check.end();
    }

    private static void nearest() {
        RoadDepots x = Check.row(5, 10);
        Check.due("12: nearest(2, 0), none open", x.nearest(2, 0), -1);
        Check.due("12: nearest(2, 1), none open", x.nearest(2, 1), -1);
        Check.open(x, 1, 3);
        Check.due("12: of like ones the least", x.nearest(2, 0), 1);
        Check.due("12: nearest(2, 1)", x.nearest(2, 1), 10);
        Check.due("12: nearest(4, 0)", x.nearest(4, 0), 3);
        Check.due("12: itself", x.nearest(3, 0), 3);
        Check.due("12: itself is 0 far", x.nearest(3, 1), 0);
        x.road(2, 11);
        Check.due("12: after the road became longer", x.nearest(2, 0), 3);
        x.depot(3, 0);
        Check.due("12: after 3 was shut", x.nearest(4, 1), 31);
        Check.due("12: nearest(5, 0)", x.nearest(5, 0), -2);
        Check.due("12: nearest(0, 2)", x.nearest(0, 2), -2);
        for (int bad : NO_NUMBERS) {
            Check.due("12: nearest(" + bad + ", 0)", x.nearest(bad, 0), -2);
            Check.due("12: nearest(0, " + bad + ")", x.nearest(0, bad), -2);
        }
        Check.due("12: how often BAD", x.told(0), 10);
    }

    private static void turn() {
        RoadDepots x = Check.row(7, 10);
        Check.due("13: turn(3, 0, 0), none open", x.turn(3, 0, 0), -1);
        Check.open(x, 0, 1, 2, 4, 5);
        int[] which = {2, 4, 1, 5, 0};
        int[] far = {10, 10, 20, 20, 30};
        for (int k = 0; k < which.length; k++) {
            Check.due("13: turn(3, " + k + ", 0)", x.turn(3, k, 0), which[k]);
            Check.due("13: turn(3, " + k + ", 1)", x.turn(3, k, 1), far[k]);
        }
        Check.due("13: turn(0, 0, 0), itself", x.turn(0, 0, 0), 0);
        Check.due("13: turn(0, 1, 0), behind itself", x.turn(0, 1, 0), 1);
        Check.due("13: turn(3, 5, 0)", x.turn(3, 5, 0), -1);
        Check.due("13: turn(3, 5, 1)", x.turn(3, 5, 1), -1);
        Check.due("13: turn(3, most, 0)", x.turn(3, Integer.MAX_VALUE, 0), -1);
        Check.due("13: turn(7, 0, 0)", x.turn(7, 0, 0), -2);
        Check.due("13: turn(0, 0, 2)", x.turn(0, 0, 2), -2);
        Check.due("13: turn(0, -1, 0)", x.turn(0, -1, 0), -2);
        Check.due("13: turn(0, least, 0)", x.turn(0, Integer.MIN_VALUE, 0), -2);
        for (int bad : NO_NUMBERS) {
            Check.due("13: turn(" + bad + ", 0, 0)", x.turn(bad, 0, 0), -2);
            Check.due("13: turn(0, 0, " + bad + ")", x.turn(0, 0, bad), -2);
        }
        Check.due("13: how often BAD", x.told(0), 12);
    }

    private static void within() {
        RoadDepots x = Check.row(60, 99);
        Check.due("14: within(0, 6000), none open", x.within(0, 6000), 0);
        Check.open(x, 0, 1, 2, 59);
        Check.due("14: within(0, 0)", x.within(0, 0), 1);
        Check.due("14: within(3, 0)", x.within(3, 0), 0);
        Check.due("14: within(0, 98)", x.within(0, 98), 1);
        Check.due("14: within(0, 99)", x.within(0, 99), 2);
        Check.due("14: within(0, 198)", x.within(0, 198), 3);
        Check.due("14: within(0, 5840)", x.within(0, 5840), 3);
        Check.due("14: within(0, 5841)", x.within(0, 5841), 4);
        Check.due("14: within(0, 6000)", x.within(0, 6000), 4);
        Check.due("14: within(0, 6001)", x.within(0, 6001), -2);
        Check.due("14: within(60, 5)", x.within(60, 5), -2);
        for (int bad : NO_NUMBERS) {
            Check.due("14: within(" + bad + ", 0)", x.within(bad, 0), -2);
            Check.due("14: within(0, " + bad + ")", x.within(0, bad), -2);
        }
        Check.due("14: how often BAD", x.told(0), 10);
    }

    private static void sum() {
        RoadDepots x = Check.nineVillages();
        Check.due("15: sum(0), none open", x.sum(0), 0);
        Check.open(x, 3);
        Check.due("15: sum(3), itself alone", x.sum(3), 0);
        Check.open(x, 7, 5);
        Check.due("15: sum(0)", x.sum(0), 36);
        Check.due("15: sum(2)", x.sum(2), 40);
        Check.due("15: sum(8)", x.sum(8), 58);
        RoadDepots row = Check.row(60, 99);
        for (int v = 0; v < 60; v++) {
            row.depot(v, 1);
        }
        Check.due("15: sum(0) of 60 in a row", row.sum(0), 175230);
        Check.due("15: sum(9)", x.sum(9), -2);
        for (int bad : NO_NUMBERS) {
            Check.due("15: sum(" + bad + ")", x.sum(bad), -2);
        }
        Check.due("15: how often BAD", x.told(0), 5);
    }

    private static void left() {
        RoadDepots x = Check.row(7, 10);
        Check.due("16: left(0), none open", x.left(0), -1);
        Check.due("16: left(1), none open", x.left(1), -1);
        Check.open(x, 3);
        Check.due("16: left(0)", x.left(0), 30);
        Check.due("16: of like ones the least", x.left(1), 0);
        Check.open(x, 0);
        Check.due("16: left(0) with two", x.left(0), 30);
        Check.due("16: left(1) with two", x.left(1), 6);
        Check.open(x, 2, 4, 5, 6);
        Check.due("16: left(0), all open but 1", x.left(0), 10);
        Check.due("16: left(1), all open but 1", x.left(1), 1);
        Check.open(x, 1);
        Check.due("16: left(0), all open", x.left(0), 0);
        Check.due("16: left(1), all open", x.left(1), 0);
        Check.due("16: left(2)", x.left(2), -2);
        for (int bad : NO_NUMBERS) {
            Check.due("16: left(" + bad + ")", x.left(bad), -2);
        }
        Check.due("16: how often BAD", x.told(0), 5);
    }

    private static void more() {
        RoadDepots x = Check.row(7, 10);
        Check.due("17: more(0), none open", x.more(0), 3);
        Check.due("17: more(1), none open", x.more(1), 30);
        Check.open(x, 3);
        Check.due("17: all are like, the least shut one", x.more(0), 0);
        Check.due("17: LEFT then", x.more(1), 30);
        Check.open(x, 0);
        Check.due("17: more(0) with two", x.more(0), 5);
        Check.due("17: more(1) with two", x.more(1), 10);
        Check.due("17: 5 is not opened by it", x.of(5, 2), 0);
        Check.open(x, 1, 2, 4, 5);
        Check.due("17: more(0), one shut", x.more(0), 6);
        Check.due("17: more(1), one shut", x.more(1), 0);
        Check.open(x, 6);
        Check.due("17: more(0), all open", x.more(0), -1);
        Check.due("17: more(1), all open", x.more(1), -1);
        RoadDepots alone = new RoadDepots();
        Check.due("17: more(0), one village", alone.more(0), 0);
        Check.due("17: more(1), one village", alone.more(1), 0);
        Check.due("17: more(2)", x.more(2), -2);
        for (int bad : NO_NUMBERS) {
            Check.due("17: more(" + bad + ")", x.more(bad), -2);
        }
        Check.due("17: how often BAD", x.told(0), 5);
    }

    private static void serves() {
        RoadDepots x = Check.row(7, 10);
        Check.due("18: none open, were it open", x.serves(4), 7);
        Check.open(x, 2, 4);
        Check.due("18: a like one goes to the least", x.serves(2), 4);
        Check.due("18: serves(4)", x.serves(4), 3);
        Check.due("18: a shut one between", x.serves(3), 1);
        Check.due("18: a shut one at the end", x.serves(0), 2);
        Check.due("18: a shut one at the other end", x.serves(6), 1);
        Check.due("18: a shut one next to the last", x.serves(5), 2);
        Check.due("18: nothing is opened by it", x.told(5), 2);
        Check.open(x, 0);
        Check.due("18: 0 takes a like one, too", x.serves(2), 2);
        Check.due("18: serves(0)", x.serves(0), 2);
        Check.due("18: serves(7)", x.serves(7), -2);
        for (int bad : NO_NUMBERS) {
            Check.due("18: serves(" + bad + ")", x.serves(bad), -2);
        }
        Check.due("18: how often BAD", x.told(0), 5);
    }

    private static void pair() {
        RoadDepots x = Check.row(7, 10);
        isPair("none open", x, -1, -1, -1);
        Check.open(x, 6);
        isPair("one open", x, -1, -1, -1);
        Check.open(x, 0);
        isPair("two open", x, 60, 0, 6);
        Check.open(x, 2, 4);
        isPair("of like ones the lesser", x, 20, 0, 2);
        x.depot(0, 0);
        isPair("after 0 was shut", x, 20, 2, 4);
        Check.open(x, 5);
        isPair("neighbours", x, 10, 4, 5);
        RoadDepots star = new RoadDepots();
        for (int v = 1; v < 6; v++) {
            star.add(0, 7);
        }
        Check.open(star, 5, 4, 2);
        isPair("then the other least", star, 14, 2, 4);
        Check.due("19: pair(3)", x.pair(3), -2);
        for (int bad : NO_NUMBERS) {
            Check.due("19: pair(" + bad + ")", x.pair(bad), -2);
        }
        Check.due("19: how often BAD", x.told(0), 5);
    }

    /** 60 villages in a row, one more open at a time, so that every loop goes to its end. */
    private static void fullLand() {
        RoadDepots x = Check.row(60, 2);
        Check.open(x, 59);
        Check.due("12: nearest(0, 0) of 60", x.nearest(0, 0), 59);
        Check.due("13: turn(0, 0, 1) of 60", x.turn(0, 0, 1), 118);
        Check.due("13: turn(0, 1, 0) of 60", x.turn(0, 1, 0), -1);
        Check.due("14: within(0, 117) of 60", x.within(0, 117), 0);
        Check.due("15: sum(0) of 60", x.sum(0), 118);
        Check.due("16: left(0) of 60", x.left(0), 118);
        Check.due("16: left(1) of 60", x.left(1), 0);
        Check.due("17: more(0) of 60", x.more(0), 18);
        Check.due("17: more(1) of 60", x.more(1), 40);
        Check.due("18: serves(59) of 60", x.serves(59), 60);
        Check.due("18: serves(58) of 60", x.serves(58), 59);
        Check.due("19: pair(0) of 60, one open", x.pair(0), -1);
        Check.open(x, 58);
        isPair("the last two of 60", x, 2, 58, 59);
        Check.due("4: road(59, 9) of 60", x.road(59, 9), 2);
        Check.due("4: road(1, 99) of 60", x.road(1, 99), 2);
        Check.due("8: far(0, 59) of 60", x.far(0, 59), 222);
        Check.due("10: longest(2) of 60", x.longest(2), 59);
        Check.due("11: middle(1) of 60", x.middle(1), 29);
        Check.due("7: of(59, 3) of 60", x.of(59, 3), 1);
        Check.said(x, "all;near 0;sum 59;within 59 9;", "58,59 58@213 9 2");
    }

    private static void isPair(String name, RoadDepots x, int far, int lesser, int other) {
        Check.due("19: " + name + " pair(0)", x.pair(0), far);
        Check.due("19: " + name + " pair(1)", x.pair(1), lesser);
        Check.due("19: " + name + " pair(2)", x.pair(2), other);
    }
}
