/** Promises 12 to 19, edge by edge: each test names the promise and the sentence of the document that it holds to. */
public final class DepotsEdgesTest {
    public static void main(String[] args) {
        nearestOfNone();
        nearestOfLikeOnes();
        nearestIsBad();
        turnFrom0On();
        turnNotSoMany();
        turnIsBad();
        withinBounds();
        withinIsBad();
        sumOfNoneAndAll();
        sumIsBad();
        leftOfNone();
        leftOfLikeOnes();
        leftIsBad();
        moreOfNoneOpen();
        moreOfLikeOnes();
        moreOfAllOpen();
        moreIsBad();
        servesOpen();
        servesShut();
        servesIsBad();
        pairOfFewerThanTwo();
        pairOfLikeOnes();
        pairIsBad();
        Check.end();
    }

    private static void nearestOfNone() {
        Check.edge(12, "NEAREST: which (0), how FAR (1); NONE.");
        RoadDepots x = Check.row(60, 99);
        Check.due("nearest(0, 0), none is open", x.nearest(0, 0), -1);
        Check.due("nearest(59, 1), none is open", x.nearest(59, 1), -1);
        Check.open(x, 59);
        Check.due("nearest(0, 0), none is farther", x.nearest(0, 0), 59);
        Check.due("nearest(0, 1), none is farther", x.nearest(0, 1), 5841);
        Check.due("nearest(59, 0), itself", x.nearest(59, 0), 59);
        Check.due("nearest(59, 1), itself", x.nearest(59, 1), 0);
        x.depot(59, 0);
        Check.due("nearest(0, 0), none is open again", x.nearest(0, 0), -1);
        Check.due("told(0), NONE is not refused", x.told(0), 0);
    }

    private static void nearestOfLikeOnes() {
        Check.edge(12, "NEAREST of a VILLAGE: the open DEPOT that is the least FAR; of like ones the least number.");
        RoadDepots x = Check.star(60, 7);
        Check.open(x, 59, 58);
        Check.due("nearest(0, 0)", x.nearest(0, 0), 58);
        Check.due("nearest(1, 0)", x.nearest(1, 0), 58);
        Check.due("nearest(59, 0), which is nearer than a lesser one", x.nearest(59, 0), 59);
        x.road(58, 8);
        Check.due("nearest(0, 0), no longer like", x.nearest(0, 0), 59);
        Check.open(x, 0);
        Check.due("nearest(5, 0)", x.nearest(5, 0), 0);
    }

    private static void nearestIsBad() {
        Check.edge(12, "BAD.");
        RoadDepots x = Check.star(3, 7);
        Check.due("nearest(-1, 0)", x.nearest(-1, 0), -2);
        Check.due("nearest(3, 0)", x.nearest(3, 0), -2);
        Check.due("nearest(0, -1)", x.nearest(0, -1), -2);
        Check.due("nearest(0, 2)", x.nearest(0, 2), -2);
        Check.due("told(0)", x.told(0), 4);
    }

    private static void turnFrom0On() {
        RoadDepots x = Check.row(60, 2);
        for (int v = 0; v < 60; v++) {
            x.depot(v, 1);
        }
        Check.edge(13, "The k-th NEAREST: which (0), how FAR (1);");
        Check.due("turn(30, 0, 0), itself", x.turn(30, 0, 0), 30);
        Check.due("turn(30, 0, 1), itself", x.turn(30, 0, 1), 0);
        Check.edge(13, "The k-th (from 0 on): so in order.");
        Check.due("turn(30, 1, 0), of like ones the least", x.turn(30, 1, 0), 29);
        Check.due("turn(30, 2, 0), then the other", x.turn(30, 2, 0), 31);
        Check.due("turn(30, 2, 1)", x.turn(30, 2, 1), 2);
        Check.due("turn(30, 59, 0), the last of 60", x.turn(30, 59, 0), 0);
        Check.due("turn(30, 59, 1), the last of 60", x.turn(30, 59, 1), 60);
        Check.due("turn(59, 59, 0)", x.turn(59, 59, 0), 0);
    }

    private static void turnNotSoMany() {
        Check.edge(13, "NONE: not so many are open.");
        RoadDepots x = Check.row(5, 2);
        Check.due("turn(0, 0, 0), none is open", x.turn(0, 0, 0), -1);
        Check.due("turn(0, 0, 1), none is open", x.turn(0, 0, 1), -1);
        Check.open(x, 4, 2);
        Check.due("turn(0, 1, 0)", x.turn(0, 1, 0), 4);
        Check.due("turn(0, 2, 0)", x.turn(0, 2, 0), -1);
        Check.due("turn(0, 2, 1)", x.turn(0, 2, 1), -1);
        Check.due("turn(0, most, 0)", x.turn(0, Integer.MAX_VALUE, 0), -1);
        Check.open(x, 1);
        x.anew();
        Check.due("turn(0, 0, 0), the open ones are gone", x.turn(0, 0, 0), -1);
        Check.due("told(0), NONE is not refused", x.told(0), 0);
        RoadDepots all = Check.star(60, 7);
        for (int v = 0; v < 60; v++) {
            all.depot(v, 1);
        }
        Check.due("turn(0, 59, 0), all are open", all.turn(0, 59, 0), 59);
        Check.due("turn(0, 60, 0), all are open", all.turn(0, 60, 0), -1);
    }

    private static void turnIsBad() {
        Check.edge(13, "BAD: k below 0, too.");
        RoadDepots x = Check.star(3, 7);
        Check.open(x, 0, 1, 2);
        Check.due("turn(0, -1, 0)", x.turn(0, -1, 0), -2);
        Check.due("turn(0, -1, 1)", x.turn(0, -1, 1), -2);
        Check.due("turn(-1, 0, 0)", x.turn(-1, 0, 0), -2);
        Check.due("turn(3, 0, 0)", x.turn(3, 0, 0), -2);
        Check.due("turn(0, 0, -1)", x.turn(0, 0, -1), -2);
        Check.due("turn(0, 0, 2)", x.turn(0, 0, 2), -2);
        Check.due("turn(3, 99, 0), which is no NONE", x.turn(3, 99, 0), -2);
        Check.due("told(0)", x.told(0), 7);
    }

    private static void withinBounds() {
        Check.edge(14, "How many open DEPOTS are n (0 .. 6000) FAR or less.");
        RoadDepots x = Check.row(60, 99);
        Check.due("within(0, 6000), none is open", x.within(0, 6000), 0);
        for (int v = 0; v < 60; v++) {
            x.depot(v, 1);
        }
        Check.due("within(0, 0), itself", x.within(0, 0), 1);
        Check.due("within(0, 98)", x.within(0, 98), 1);
        Check.due("within(0, 99), just so far", x.within(0, 99), 2);
        Check.due("within(0, 100)", x.within(0, 100), 2);
        Check.due("within(30, 99), both ways", x.within(30, 99), 3);
        Check.due("within(0, 5840)", x.within(0, 5840), 59);
        Check.due("within(0, 5841)", x.within(0, 5841), 60);
        Check.due("within(0, 6000)", x.within(0, 6000), 60);
        x.depot(0, 0);
        Check.due("within(0, 0), itself is shut", x.within(0, 0), 0);
    }

    private static void withinIsBad() {
        Check.edge(14, "BAD.");
        RoadDepots x = Check.star(3, 7);
        Check.due("within(0, -1)", x.within(0, -1), -2);
        Check.due("within(0, 6001)", x.within(0, 6001), -2);
        Check.due("within(-1, 5)", x.within(-1, 5), -2);
        Check.due("within(3, 5)", x.within(3, 5), -2);
        Check.due("told(0)", x.told(0), 4);
    }

    private static void sumOfNoneAndAll() {
        Check.edge(15, "How FAR all open DEPOTS are together.");
        RoadDepots x = Check.row(60, 99);
        Check.due("sum(0), none is open", x.sum(0), 0);
        Check.open(x, 59);
        Check.due("sum(59), itself alone", x.sum(59), 0);
        Check.due("sum(0), one", x.sum(0), 5841);
        for (int v = 0; v < 60; v++) {
            x.depot(v, 1);
        }
        Check.due("sum(0), no more can be", x.sum(0), 175230);
        Check.due("sum(59)", x.sum(59), 175230);
        Check.due("sum(30)", x.sum(30), 99 * (30 * 31 / 2 + 29 * 30 / 2));
    }

    private static void sumIsBad() {
        Check.edge(15, "BAD.");
        RoadDepots x = Check.star(3, 7);
        Check.due("sum(-1)", x.sum(-1), -2);
        Check.due("sum(3)", x.sum(3), -2);
        Check.due("told(0)", x.told(0), 2);
    }

    private static void leftOfNone() {
        Check.edge(16, "NONE: none is open.");
        RoadDepots x = Check.row(60, 99);
        Check.due("left(0)", x.left(0), -1);
        Check.due("left(1)", x.left(1), -1);
        Check.open(x, 59);
        Check.due("left(0), none is farther", x.left(0), 5841);
        Check.due("left(1)", x.left(1), 0);
        x.depot(59, 0);
        Check.due("left(0), shut again", x.left(0), -1);
        Check.due("left(1), shut again", x.left(1), -1);
        Check.due("told(0), NONE is not refused", x.told(0), 0);
    }

    private static void leftOfLikeOnes() {
        Check.edge(16, "LEFT of the open ones: how FAR (0), the least VILLAGE that is so (1);");
        RoadDepots x = Check.star(60, 7);
        Check.open(x, 0);
        Check.due("left(0)", x.left(0), 7);
        Check.due("left(1), all but 0 are like", x.left(1), 1);
        x.road(58, 9);
        x.road(59, 9);
        Check.due("left(0), two are farther", x.left(0), 9);
        Check.due("left(1), two are farther", x.left(1), 58);
        Check.edge(16, "LEFT of a set: how FAR the VILLAGE is that is the farthest from its NEAREST.");
        Check.open(x, 58);
        Check.due("left(1), 58 is open itself", x.left(1), 59);
        RoadDepots all = Check.row(2, 7);
        Check.open(all, 0, 1);
        Check.due("left(0), all are open", all.left(0), 0);
        Check.due("left(1), all are open", all.left(1), 0);
    }

    private static void leftIsBad() {
        Check.edge(16, "BAD.");
        RoadDepots x = Check.star(3, 7);
        Check.due("left(-1), which is no NONE", x.left(-1), -2);
        Check.due("left(2), which is no NONE", x.left(2), -2);
        Check.open(x, 0);
        Check.due("left(-1)", x.left(-1), -2);
        Check.due("left(2)", x.left(2), -2);
        Check.due("told(0)", x.told(0), 4);
    }

    private static void moreOfNoneOpen() {
        Check.edge(17, "The shut DEPOT by which, opened too, LEFT is least");
        RoadDepots x = Check.row(60, 99);
        Check.due("more(0), none is open", x.more(0), 29);
        Check.due("more(1), none is open", x.more(1), 2970);
        Check.open(x, 29);
        Check.due("more(0), 29 is open", x.more(0), 30);
        Check.due("more(1), 29 is open", x.more(1), 2871);
        RoadDepots one = new RoadDepots();
        Check.due("more(0) of one", one.more(0), 0);
        Check.due("more(1) of one", one.more(1), 0);
        Check.due("of(0, 2), it is not opened by the question", one.of(0, 2), 0);
    }

    private static void moreOfLikeOnes() {
        Check.edge(17, "(of like ones the least): which (0), LEFT then (1);");
        RoadDepots x = Check.star(60, 7);
        Check.open(x, 0);
        Check.due("more(0), all shut ones are like", x.more(0), 1);
        Check.due("more(1), all shut ones are like", x.more(1), 7);
        x.road(59, 9);
        Check.due("more(0), 59 does most", x.more(0), 59);
        Check.due("more(1), 59 does most", x.more(1), 7);
        x.road(58, 9);
        Check.due("more(0), all are like again", x.more(0), 1);
        Check.due("more(1), all are like again", x.more(1), 9);
        x.depot(0, 0);
        Check.due("more(0), 0 is shut", x.more(0), 0);
    }

    private static void moreOfAllOpen() {
        Check.edge(17, "NONE: all are open.");
        RoadDepots x = Check.row(60, 99);
        for (int v = 0; v < 59; v++) {
            x.depot(v, 1);
        }
        Check.due("more(0), one is shut", x.more(0), 59);
        Check.due("more(1), one is shut", x.more(1), 0);
        Check.open(x, 59);
        Check.due("more(0)", x.more(0), -1);
        Check.due("more(1)", x.more(1), -1);
        Check.due("told(0), NONE is not refused", x.told(0), 0);
        RoadDepots one = new RoadDepots();
        Check.open(one, 0);
        Check.due("more(0) of one", one.more(0), -1);
        Check.due("more(1) of one", one.more(1), -1);
    }

    private static void moreIsBad() {
        Check.edge(17, "BAD.");
        RoadDepots x = new RoadDepots();
        Check.due("more(-1)", x.more(-1), -2);
        Check.due("more(2)", x.more(2), -2);
        Check.open(x, 0);
        Check.due("more(-1), which is no NONE", x.more(-1), -2);
        Check.due("more(2), which is no NONE", x.more(2), -2);
        Check.due("told(0)", x.told(0), 4);
    }

    private static void servesOpen() {
        Check.edge(18, "For how many VILLAGES DEPOT v is the NEAREST");
        RoadDepots x = Check.star(60, 7);
        Check.open(x, 59);
        Check.due("serves(59), all", x.serves(59), 60);
        Check.open(x, 58);
        Check.due("serves(58), of like ones the least", x.serves(58), 59);
        Check.due("serves(59), itself alone", x.serves(59), 1);
        Check.open(x, 0);
        Check.due("serves(0)", x.serves(0), 58);
        Check.due("serves(58), itself alone", x.serves(58), 1);
    }

    private static void servesShut() {
        Check.edge(18, "(were it open, if it is shut).");
        RoadDepots x = Check.star(60, 7);
        Check.due("serves(59), none is open", x.serves(59), 60);
        Check.due("serves(0) of a new object", new RoadDepots().serves(0), 1);
        Check.open(x, 30);
        Check.due("serves(59), itself alone", x.serves(59), 1);
        Check.due("serves(1), of like ones the least", x.serves(1), 59);
        Check.due("serves(30), as if 1 had not been asked for", x.serves(30), 60);
        Check.due("told(5)", x.told(5), 1);
    }

    private static void servesIsBad() {
        Check.edge(18, "BAD.");
        RoadDepots x = Check.star(3, 7);
        Check.due("serves(-1)", x.serves(-1), -2);
        Check.due("serves(3)", x.serves(3), -2);
        Check.due("told(0)", x.told(0), 2);
    }

    private static void pairOfFewerThanTwo() {
        Check.edge(19, "NONE: fewer than two.");
        RoadDepots x = Check.row(60, 99);
        isPair("none is open", x, -1, -1, -1);
        Check.open(x, 59);
        isPair("one is open", x, -1, -1, -1);
        Check.open(x, 0);
        isPair("two are open, none are farther", x, 5841, 0, 59);
        x.depot(59, 0);
        isPair("one is open again", x, -1, -1, -1);
        Check.due("told(0), NONE is not refused", x.told(0), 0);
    }

    private static void pairOfLikeOnes() {
        Check.edge(19, "Two open DEPOTS that are the least FAR from one another: how FAR (0), the lesser (1), the other (2); of like ones the lesser, then the other least;");
        RoadDepots x = Check.star(60, 7);
        Check.open(x, 59, 58, 57);
        isPair("all are like", x, 14, 57, 58);
        x.road(58, 6);
        isPair("58 is nearer", x, 13, 57, 58);
        x.road(59, 6);
        isPair("59 is nearer, too", x, 12, 58, 59);
        x.road(57, 6);
        isPair("all are like again", x, 12, 57, 58);
        Check.open(x, 0);
        isPair("0 is nearest to all", x, 6, 0, 57);
    }

    private static void isPair(String name, RoadDepots x, int far, int lesser, int other) {
        Check.due("pair(0), " + name, x.pair(0), far);
        Check.due("pair(1), " + name, x.pair(1), lesser);
        Check.due("pair(2), " + name, x.pair(2), other);
    }

    private static void pairIsBad() {
        Check.edge(19, "BAD.");
        RoadDepots x = Check.star(3, 7);
        Check.due("pair(-1), which is no NONE", x.pair(-1), -2);
        Check.due("pair(3), which is no NONE", x.pair(3), -2);
        Check.open(x, 0, 1);
        Check.due("pair(-1)", x.pair(-1), -2);
        Check.due("pair(3)", x.pair(3), -2);
        Check.due("told(0)", x.told(0), 4);
    }
}
