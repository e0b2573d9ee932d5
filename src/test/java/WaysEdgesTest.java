/** Promises 8 to 11, edge by edge: each test names the promise and the sentence of the document that it holds to. */
public final class WaysEdgesTest {
    public static void main(String[] args) {
        farOfItself();
        farByRoads();
        farIsBad();
        wayHowMany();
        wayKth();
        wayNotSoMany();
        wayIsBad();
        longestOfOne();
        longestOfLikeOnes();
        longestIsBad();
        middleOfFew();
        middleByFarthest();
        middleByAll();
        middleByThoseThatAreThere();
        middleByRest();
        middleIsBad();
        Check.end();
    }

    private static void farOfItself() {
        Check.edge(8, "(0: itself)");
        RoadDepots x = Check.row(60, 99);
        Check.due("far(0, 0)", x.far(0, 0), 0);
        Check.due("far(59, 59)", x.far(59, 59), 0);
        x.road(59, 1);
        Check.due("far(59, 59) behind road", x.far(59, 59), 0);
    }

    private static void farByRoads() {
        Check.edge(8, "nothing but these ROADS joins them. FAR: all LENGTHS on the way from one to another");
        RoadDepots row = Check.row(60, 99);
        Check.due("far(0, 59), no way is longer", row.far(0, 59), 5841);
        Check.due("far(59, 0)", row.far(59, 0), 5841);
        RoadDepots star = Check.star(60, 1);
        Check.due("far(1, 59), which goes over 0", star.far(1, 59), 2);
        Check.due("far(58, 59)", star.far(58, 59), 2);
        star.road(58, 99);
        Check.due("far(59, 58) behind road", star.far(59, 58), 100);
        star.anew();
        star.add(0, 3);
        star.add(0, 4);
        Check.due("far(1, 2) behind anew", star.far(1, 2), 7);
    }

    private static void farIsBad() {
        Check.edge(8, "FAR. BAD.");
        RoadDepots x = Check.star(3, 7);
        Check.due("far(-1, 0)", x.far(-1, 0), -2);
        Check.due("far(3, 0)", x.far(3, 0), -2);
        Check.due("far(0, -1)", x.far(0, -1), -2);
        Check.due("far(0, 3)", x.far(0, 3), -2);
        Check.due("far(3, 3), itself", x.far(3, 3), -2);
        Check.due("told(0)", x.told(0), 5);
    }

    private static void wayHowMany() {
        Check.edge(9, "How many VILLAGES are on the way, both too (k = NONE)");
        RoadDepots x = Check.row(60, 1);
        Check.due("way(0, 59, -1)", x.way(0, 59, -1), 60);
        Check.due("way(59, 0, -1)", x.way(59, 0, -1), 60);
        Check.due("way(58, 59, -1)", x.way(58, 59, -1), 2);
        Check.due("way(59, 59, -1), itself alone", x.way(59, 59, -1), 1);
        Check.due("way(0, 0, -1) of a new object", new RoadDepots().way(0, 0, -1), 1);
    }

    private static void wayKth() {
        Check.edge(9, "the k-th from u on;");
        RoadDepots x = Check.nineVillages();
        int[] villages = {8, 3, 1, 0, 2, 6};
        for (int k = 0; k < 6; k++) {
            Check.due("way(8, 6, " + k + ")", x.way(8, 6, k), villages[k]);
            Check.due("way(6, 8, " + k + ")", x.way(6, 8, k), villages[5 - k]);
        }
        Check.due("way(5, 5, 0)", x.way(5, 5, 0), 5);
        RoadDepots row = Check.row(60, 1);
        Check.due("way(0, 59, 59)", row.way(0, 59, 59), 59);
        Check.due("way(59, 0, 59)", row.way(59, 0, 59), 0);
    }

    private static void wayNotSoMany() {
        Check.edge(9, "-5: not so many.");
        RoadDepots x = Check.row(60, 1);
        Check.due("way(5, 5, 1)", x.way(5, 5, 1), -5);
        Check.due("way(3, 5, 3)", x.way(3, 5, 3), -5);
        Check.due("way(0, 59, 60)", x.way(0, 59, 60), -5);
        Check.due("way(0, 59, most)", x.way(0, 59, Integer.MAX_VALUE), -5);
        Check.due("told(0), it is not refused", x.told(0), 0);
    }

    private static void wayIsBad() {
        Check.edge(9, "BAD: -10.");
        RoadDepots x = Check.star(3, 7);
        Check.due("way(-1, 0, -1)", x.way(-1, 0, -1), -10);
        Check.due("way(3, 0, 0)", x.way(3, 0, 0), -10);
        Check.due("way(0, -1, -1)", x.way(0, -1, -1), -10);
        Check.due("way(0, 3, 0)", x.way(0, 3, 0), -10);
        Check.due("way(0, 1, -2)", x.way(0, 1, -2), -10);
        Check.due("way(3, 0, 99), which is no -5", x.way(3, 0, 99), -10);
        Check.due("told(0)", x.told(0), 6);
    }

    private static void longestOfOne() {
        Check.edge(10, "The longest way of all: how FAR (0)");
        RoadDepots x = new RoadDepots();
        Check.due("longest(0) of one", x.longest(0), 0);
        Check.due("longest(1) of one", x.longest(1), 0);
        Check.due("longest(2) of one", x.longest(2), 0);
        x.add(0, 1);
        Check.due("longest(0) of two", x.longest(0), 1);
        RoadDepots row = Check.row(60, 99);
        Check.due("longest(0), no way is longer", row.longest(0), 5841);
        Check.due("longest(1)", row.longest(1), 0);
        Check.due("longest(2)", row.longest(2), 59);
    }

    private static void longestOfLikeOnes() {
        Check.edge(10, "the least VILLAGE at an end of such a one (1), the least other end of one from that (2).");
        RoadDepots x = Check.star(60, 7);
        Check.due("longest(0), all ends are like", x.longest(0), 14);
        Check.due("longest(1), all ends are like", x.longest(1), 1);
        Check.due("longest(2), all ends are like", x.longest(2), 2);
        x.road(59, 9);
        Check.due("longest(1), from the least to the longest", x.longest(1), 1);
        Check.due("longest(2), from the least to the longest", x.longest(2), 59);
        x.road(30, 9);
        Check.due("longest(1), two that are longest", x.longest(1), 30);
        Check.due("longest(2), two that are longest", x.longest(2), 59);
        x.road(40, 9);
        Check.due("longest(1), three that are longest", x.longest(1), 30);
        Check.due("longest(2), three that are longest", x.longest(2), 40);
    }

    private static void longestIsBad() {
        Check.edge(10, "BAD.");
        RoadDepots x = Check.star(3, 7);
        Check.due("longest(-1)", x.longest(-1), -2);
        Check.due("longest(3)", x.longest(3), -2);
        Check.due("told(0)", x.told(0), 2);
    }

    private static void middleOfFew() {
        Check.edge(11, "of like ones the least.");
        RoadDepots one = new RoadDepots();
        RoadDepots two = Check.row(2, 7);
        RoadDepots four = Check.row(4, 7);
        RoadDepots sixty = Check.row(60, 99);
        for (int what = 0; what < 3; what++) {
            Check.due("middle(" + what + ") of one", one.middle(what), 0);
            Check.due("middle(" + what + ") of two", two.middle(what), 0);
            Check.due("middle(" + what + ") of four in a row", four.middle(what), 1);
            Check.due("middle(" + what + ") of 60 in a row", sixty.middle(what), 29);
        }
    }

    private static void middleByFarthest() {
        Check.edge(11, "The VILLAGE from which the farthest one is the least FAR (0)");
        RoadDepots x = Check.star(59, 1);
        Check.due("middle(0) of a star", x.middle(0), 0);
        x.add(58, 1);
        Check.due("middle(0), 0 and 58 are like", x.middle(0), 0);
        x.road(58, 2);
        x.road(59, 4);
        Check.due("middle(0), 58 is in the middle", x.middle(0), 58);
        x.road(59, 99);
        Check.due("middle(0), 58 and 59 reach far", x.middle(0), 58);
    }

    private static void middleByAll() {
        Check.edge(11, "from which all together are (1)");
        RoadDepots x = Check.star(4, 1);
        x.add(3, 99);
        x.add(3, 99);
        Check.due("middle(1), as many here as there", x.middle(1), 0);
        x.add(3, 99);
        Check.due("middle(1), one more there", x.middle(1), 3);
        Check.due("middle(0), which asks otherwise", x.middle(0), 3);
        x.road(1, 99);
        x.road(3, 50);
        x.add(0, 1);
        Check.due("middle(1), as many again", x.middle(1), 0);
    }

    private static void middleByThoseThatAreThere() {
        Check.edge(11, "from which all together are (1)");
        RoadDepots x = Check.row(60, 99);
        x.anew();
        x.add(0, 1);
        x.add(1, 1);
        x.add(2, 1);
        for (int what = 0; what < 3; what++) {
            Check.due("middle(" + what + ") of four, where 60 were farther", x.middle(what), 1);
        }
        Check.due("longest(0) of four, where 60 were farther", x.longest(0), 3);
    }

    private static void middleByRest() {
        Check.edge(11, "without which the greatest rest that hangs together has fewest VILLAGES (2);");
        RoadDepots x = Check.row(31, 1);
        for (int v = 31; v < 60; v++) {
            x.add(30, 1);
        }
        // Without 29, 29 hang towards 0 and 30 on 30; without 30, 30 hang towards 0.
        Check.due("middle(2), 29 and 30 are like", x.middle(2), 29);
        Check.due("middle(0), which asks otherwise", x.middle(0), 15);
        RoadDepots star = Check.star(60, 99);
        Check.due("middle(2) of a star", star.middle(2), 0);
    }

    private static void middleIsBad() {
        Check.edge(11, "BAD.");
        RoadDepots x = Check.star(3, 7);
        Check.due("middle(-1)", x.middle(-1), -2);
        Check.due("middle(3)", x.middle(3), -2);
        Check.due("told(0)", x.told(0), 2);
    }
}
