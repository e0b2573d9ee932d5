/** Promises 8 to 11: ways. */
public final class WaysTest {
    private static final int[] NO_NUMBERS = {Integer.MIN_VALUE, -2, -1, Integer.MAX_VALUE};

    public static void main(String[] args) {
        far();
        way();
        longest();
        middle();
        Check.end();
    }

    private static void far() {
        RoadDepots x = Check.nineVillages();
        Check.due("8: far(0, 0)", x.far(0, 0), 0);
        Check.due("8: far(8, 8)", x.far(8, 8), 0);
        Check.due("8: far(0, 8)", x.far(0, 8), 18);
        Check.due("8: far(8, 0)", x.far(8, 0), 18);
        Check.due("8: far(7, 8)", x.far(7, 8), 19);
        Check.due("8: far(4, 7)", x.far(4, 7), 20);
        Check.due("8: far(6, 8)", x.far(6, 8), 30);
        Check.due("8: far(5, 4)", x.far(5, 4), 20);
        RoadDepots row = Check.row(60, 99);
        Check.due("8: far(0, 59) in a row", row.far(0, 59), 5841);
        Check.due("8: far(59, 1) in a row", row.far(59, 1), 5742);
        Check.due("8: far(9, 0)", x.far(9, 0), -2);
        Check.due("8: far(0, 9)", x.far(0, 9), -2);
        for (int bad : NO_NUMBERS) {
            Check.due("8: far(" + bad + ", 0)", x.far(bad, 0), -2);
            Check.due("8: far(0, " + bad + ")", x.far(0, bad), -2);
        }
        Check.due("8: how often BAD", x.told(0), 10);
    }

    private static void way() {
        RoadDepots x = Check.nineVillages();
        isWay(x, 7, 6, 7, 3, 1, 0, 2, 6);
        isWay(x, 6, 7, 6, 2, 0, 1, 3, 7);
        isWay(x, 7, 8, 7, 3, 8);
        isWay(x, 4, 8, 4, 1, 3, 8);
        isWay(x, 0, 8, 0, 1, 3, 8);
        isWay(x, 8, 0, 8, 3, 1, 0);
        isWay(x, 5, 5, 5);
        isWay(x, 0, 0, 0);
        isWay(x, 1, 3, 1, 3);
        RoadDepots row = Check.row(60, 1);
        int[] all = new int[60];
        for (int v = 0; v < 60; v++) {
            all[v] = v;
        }
        isWay(row, 0, 59, all);
        RoadDepots two = new RoadDepots();
        two.add(0, 1);
        two.add(0, 1);
        for (int v = 3; v < 60; v++) {
            two.add(v - 2, 1);
        }
        Check.due("9: a way over all, with two arms", two.way(58, 59, -1), 60);
        Check.due("9: its first", two.way(58, 59, 0), 58);
        Check.due("9: its last", two.way(58, 59, 59), 59);
        Check.due("9: village 0 on it", two.way(58, 59, 29), 0);
        Check.due("9: way(9, 0, 0)", x.way(9, 0, 0), -10);
        Check.due("9: way(0, 9, 0)", x.way(0, 9, 0), -10);
        Check.due("9: way(0, 0, -2)", x.way(0, 0, -2), -10);
        Check.due("9: way(0, 9, 99)", x.way(0, 9, 99), -10);
        for (int bad : NO_NUMBERS) {
            Check.due("9: way(" + bad + ", 0, 0)", x.way(bad, 0, 0), -10);
            Check.due("9: way(0, " + bad + ", 0)", x.way(0, bad, 0), -10);
        }
        Check.due("9: way(0, 0, least)", x.way(0, 0, Integer.MIN_VALUE), -10);
        Check.due("9: how often BAD, but not -5", x.told(0), 13);
    }

    private static void isWay(RoadDepots x, int u, int v, int... villages) {
        String call = "9: way(" + u + ", " + v + ", ";
        Check.due(call + "-1)", x.way(u, v, -1), villages.length);
        for (int k = 0; k < villages.length; k++) {
            Check.due(call + k + ")", x.way(u, v, k), villages[k]);
        }
        Check.due(call + villages.length + ")", x.way(u, v, villages.length), -5);
        Check.due(call + "60)", x.way(u, v, 60), -5);
        Check.due(call + "most)", x.way(u, v, Integer.MAX_VALUE), -5);
    }

    private static void longest() {
        isLongest("one village", new RoadDepots(), 0, 0, 0);
        isLongest("two villages", Check.row(2, 9), 9, 0, 1);
        isLongest("nine villages", Check.nineVillages(), 30, 6, 8);
        isLongest("a long row", Check.row(60, 99), 5841, 0, 59);
        RoadDepots star = new RoadDepots();
        for (int v = 1; v < 6; v++) {
            star.add(0, v == 1 ? 3 : 5);
        }
        isLongest("a star with like ends", star, 10, 2, 3);
        star.road(1, 6);
        isLongest("a star with one longer", star, 11, 1, 2);
        RoadDepots x = new RoadDepots();
        Check.due("10: longest(3)", x.longest(3), -2);
        for (int bad : NO_NUMBERS) {
            Check.due("10: longest(" + bad + ")", x.longest(bad), -2);
        }
        Check.due("10: how often BAD", x.told(0), 5);
    }

    private static void isLongest(String name, RoadDepots x, int far, int end, int other) {
        Check.due("10: " + name + " longest(0)", x.longest(0), far);
        Check.due("10: " + name + " longest(1)", x.longest(1), end);
        Check.due("10: " + name + " longest(2)", x.longest(2), other);
    }

    private static void middle() {
        isMiddle("one village", new RoadDepots(), 0, 0, 0);
        isMiddle("two villages", Check.row(2, 9), 0, 0, 0);
        isMiddle("three in a row", Check.row(3, 9), 1, 1, 1);
        isMiddle("four in a row", Check.row(4, 9), 1, 1, 1);
        isMiddle("sixty in a row", Check.row(60, 99), 29, 29, 29);
        isMiddle("nine villages", Check.nineVillages(), 1, 1, 1);
        // Three leaves at 0, and a long arm 0 - 4 - 5 - 6.
        RoadDepots x = new RoadDepots();
        x.add(0, 1);
        x.add(0, 1);
        x.add(0, 1);
        x.add(0, 10);
        x.add(4, 10);
        x.add(5, 50);
        isMiddle("an arm", x, 5, 0, 0);
        // Four leaves at 5: the rest that hangs together counts towards 0, too.
        RoadDepots broom = Check.row(6, 1);
        broom.add(5, 1);
        broom.add(5, 1);
        broom.add(5, 1);
        broom.add(5, 1);
        isMiddle("a broom", broom, 3, 4, 4);
        broom.add(5, 1);
        isMiddle("a greater broom", broom, 3, 5, 5);
        Check.due("11: middle(3)", x.middle(3), -2);
        for (int bad : NO_NUMBERS) {
            Check.due("11: middle(" + bad + ")", x.middle(bad), -2);
        }
        Check.due("11: how often BAD", x.told(0), 5);
    }

    private static void isMiddle(String name, RoadDepots x, int byFarthest, int byAll, int byRest) {
        Check.due("11: " + name + " middle(0)", x.middle(0), byFarthest);
        Check.due("11: " + name + " middle(1)", x.middle(1), byAll);
        Check.due("11: " + name + " middle(2)", x.middle(2), byRest);
    }
}
