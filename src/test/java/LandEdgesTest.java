import java.math.BigInteger;

/** Promises 1 to 7, edge by edge: each test names the promise and the sentence of the document that it holds to. */
public final class LandEdgesTest {
    public static void main(String[] args) {
        newObject();
        newObjectIsEmpty();
        depotsAreShutAtFirst();
        addNumbers();
        addLengths();
        addRoots();
        addIsFull();
        addIsBadBeforeFull();
        depotAnswers();
        depotIsBad();
        roadAnswers();
        roadIsNotOf0();
        roadIsBad();
        anewOfMany();
        anewOfOne();
        anewShuts();
        drawHowMany();
        drawSeeds();
        drawWrapsAround();
        drawStartsAnew();
        drawIsBad();
        ofVillage0();
        ofRoads();
        ofIsBad();
        Check.end();
    }

    private static void newObject() {
        Check.edge(1, "As told; VILLAGE 0 alone, its DEPOT shut.");
        RoadDepots x = new RoadDepots();
        Check.due("told(4)", x.told(4), 1);
        Check.due("of(0, 2)", x.of(0, 2), 0);
        Check.due("told(5)", x.told(5), 0);
        Check.due("nearest(0, 0)", x.nearest(0, 0), -1);
        Check.due("of(0, 3)", x.of(0, 3), 0);
        Check.edge(1, "59: VILLAGE 0 is there at first");
        Check.due("of(0, 0)", x.of(0, 0), -1);
        Check.due("of(1, 0)", x.of(1, 0), -2);
        Check.due("of(-1, 0)", x.of(-1, 0), -2);
        Check.due("far(0, 0)", x.far(0, 0), 0);
    }

    private static void newObjectIsEmpty() {
        Check.edge(1, "empty at first");
        RoadDepots x = new RoadDepots();
        for (int what : new int[] {0, 1, 2, 3, 6}) {
            Check.due("told(" + what + ")", x.told(what), 0);
        }
        Check.due("answer(-1)", x.answer(-1), 0);
        Check.due("answer(0)", x.answer(0), -5);
        Check.due("clear()", x.clear(), 0);
        Check.due("says()", x.says(), -10);
    }

    private static void depotsAreShutAtFirst() {
        Check.edge(2, "Each VILLAGE has a DEPOT, open or shut (at first).");
        RoadDepots x = Check.star(4, 5);
        Check.due("of(3, 2)", x.of(3, 2), 0);
        Check.open(x, 0, 1, 2, 3);
        x.anew();
        x.add(0, 5);
        Check.due("of(1, 2), where an open one was before", x.of(1, 2), 0);
        Check.due("told(5)", x.told(5), 0);
        Check.say(x, "add 0 1;add 0 1;");
        Check.due("of(3, 2), come by words", x.of(3, 2), 0);
    }

    private static void addNumbers() {
        Check.edge(2, "A VILLAGE comes: its number.");
        RoadDepots x = new RoadDepots();
        for (int v = 1; v < 60; v++) {
            Check.due("add as village " + v, x.add(v / 2, 3), v);
        }
        Check.due("told(4)", x.told(4), 60);
        Check.due("of(59, 0)", x.of(59, 0), 29);
    }

    private static void addLengths() {
        Check.edge(2, "each other one comes on a ROAD of a LENGTH (1 .. 99)");
        RoadDepots x = new RoadDepots();
        Check.due("add(0, 1)", x.add(0, 1), 1);
        Check.due("of(1, 1)", x.of(1, 1), 1);
        Check.due("add(0, 99)", x.add(0, 99), 2);
        Check.due("of(2, 1)", x.of(2, 1), 99);
        Check.due("add(0, 0)", x.add(0, 0), -2);
        Check.due("add(0, -1)", x.add(0, -1), -2);
        Check.due("add(0, 100)", x.add(0, 100), -2);
        Check.due("told(4)", x.told(4), 3);
    }

    private static void addRoots() {
        Check.edge(2, "to one that is there (its ROOT)");
        RoadDepots x = new RoadDepots();
        Check.due("add(1, 5), to itself", x.add(1, 5), -2);
        Check.due("add(-1, 5)", x.add(-1, 5), -2);
        Check.due("add(0, 5)", x.add(0, 5), 1);
        Check.due("add(1, 5)", x.add(1, 5), 2);
        Check.due("of(2, 0)", x.of(2, 0), 1);
        Check.due("add(3, 5)", x.add(3, 5), -2);
        x.anew();
        Check.due("add(1, 5), 1 is gone", x.add(1, 5), -2);
    }

    private static void addIsFull() {
        Check.edge(2, "FULL: 60.");
        RoadDepots x = Check.star(59, 7);
        Check.due("add(58, 1) when there are 59", x.add(58, 1), 59);
        Check.due("add(59, 1) when there are 60", x.add(59, 1), -4);
        Check.due("add(0, 99) when there are 60", x.add(0, 99), -4);
        Check.due("told(2)", x.told(2), 2);
        Check.due("told(0)", x.told(0), 0);
        Check.due("told(4)", x.told(4), 60);
        Check.due("anew()", x.anew(), 60);
        Check.due("add(0, 1), there is room again", x.add(0, 1), 1);
    }

    private static void addIsBadBeforeFull() {
        Check.edge(2, "BAD;");
        RoadDepots x = Check.star(60, 7);
        Check.due("add(60, 1) when there are 60", x.add(60, 1), -2);
        Check.due("add(-1, 1) when there are 60", x.add(-1, 1), -2);
        Check.due("add(0, 0) when there are 60", x.add(0, 0), -2);
        Check.due("add(0, 100) when there are 60", x.add(0, 100), -2);
        Check.due("told(0)", x.told(0), 4);
        Check.due("told(2)", x.told(2), 0);
    }

    private static void depotAnswers() {
        Check.edge(3, "The DEPOT of a VILLAGE becomes open (1), shut (0): 1, if it was otherwise, else 0.");
        RoadDepots x = Check.star(60, 7);
        for (int v : new int[] {0, 59}) {
            Check.due("depot(" + v + ", 0), shut at first", x.depot(v, 0), 0);
            Check.due("depot(" + v + ", 1)", x.depot(v, 1), 1);
            Check.due("depot(" + v + ", 1) again", x.depot(v, 1), 0);
            Check.due("of(" + v + ", 2)", x.of(v, 2), 1);
            Check.due("told(5)", x.told(5), 1);
            Check.due("depot(" + v + ", 0)", x.depot(v, 0), 1);
            Check.due("depot(" + v + ", 0) again", x.depot(v, 0), 0);
            Check.due("told(5)", x.told(5), 0);
        }
    }

    private static void depotIsBad() {
        Check.edge(3, "BAD.");
        RoadDepots x = Check.star(3, 7);
        Check.due("depot(-1, 1)", x.depot(-1, 1), -2);
        Check.due("depot(3, 1)", x.depot(3, 1), -2);
        Check.due("depot(0, -1)", x.depot(0, -1), -2);
        Check.due("depot(0, 2)", x.depot(0, 2), -2);
        Check.due("told(0)", x.told(0), 4);
        Check.due("told(5)", x.told(5), 0);
    }

    private static void roadAnswers() {
        Check.edge(4, "The ROAD from a VILLAGE (not 0) to its ROOT becomes of a LENGTH: what it was.");
        RoadDepots x = Check.row(60, 5);
        Check.due("road(59, 1)", x.road(59, 1), 5);
        Check.due("road(59, 99)", x.road(59, 99), 1);
        Check.due("road(59, 99) again", x.road(59, 99), 99);
        Check.due("far(58, 59)", x.far(58, 59), 99);
        Check.due("road(1, 99)", x.road(1, 99), 5);
        Check.due("of(1, 1)", x.of(1, 1), 99);
        Check.due("far(59, 0)", x.far(59, 0), 99 + 57 * 5 + 99);
        Check.due("far(0, 58)", x.far(0, 58), 99 + 57 * 5);
        Check.due("far(1, 58), which does not go over it", x.far(1, 58), 57 * 5);
    }

    private static void roadIsNotOf0() {
        Check.edge(4, "(not 0)");
        RoadDepots x = Check.star(3, 7);
        Check.due("road(0, 5)", x.road(0, 5), -2);
        Check.due("of(0, 1)", x.of(0, 1), 0);
        Check.due("far(0, 1)", x.far(0, 1), 7);
        Check.due("told(0)", x.told(0), 1);
    }

    private static void roadIsBad() {
        Check.edge(4, "BAD.");
        RoadDepots x = Check.star(3, 7);
        Check.due("road(-1, 5)", x.road(-1, 5), -2);
        Check.due("road(3, 5)", x.road(3, 5), -2);
        Check.due("road(2, 0)", x.road(2, 0), -2);
        Check.due("road(2, -1)", x.road(2, -1), -2);
        Check.due("road(2, 100)", x.road(2, 100), -2);
        Check.due("told(0)", x.told(0), 5);
        Check.due("of(2, 1)", x.of(2, 1), 7);
        Check.due("road(1, 5) of a new object", new RoadDepots().road(1, 5), -2);
    }

    private static void anewOfMany() {
        Check.edge(5, "All but VILLAGE 0 go");
        RoadDepots x = Check.star(60, 7);
        Check.due("anew() of 60", x.anew(), 60);
        Check.due("told(4)", x.told(4), 1);
        Check.due("of(1, 0)", x.of(1, 0), -2);
        Check.due("of(0, 3)", x.of(0, 3), 0);
        Check.due("longest(0)", x.longest(0), 0);
        Check.due("add(0, 2)", x.add(0, 2), 1);
        Check.due("far(0, 1)", x.far(0, 1), 2);
    }

    private static void anewOfOne() {
        Check.edge(5, "how many there were.");
        RoadDepots x = new RoadDepots();
        Check.due("anew() of a new object", x.anew(), 1);
        x.add(0, 5);
        Check.due("anew() of two", x.anew(), 2);
        Check.due("anew() again", x.anew(), 1);
    }

    private static void anewShuts() {
        Check.edge(5, "its DEPOT is shut");
        RoadDepots x = Check.star(3, 7);
        Check.open(x, 0, 2);
        x.anew();
        Check.due("of(0, 2)", x.of(0, 2), 0);
        Check.due("told(5)", x.told(5), 0);
        Check.due("nearest(0, 0)", x.nearest(0, 0), -1);
        Check.due("depot(0, 1)", x.depot(0, 1), 1);
    }

    private static void drawHowMany() {
        Check.edge(6, "n VILLAGES (0 .. 59) come to VILLAGE 0 alone");
        RoadDepots x = Check.star(5, 7);
        Check.due("draw(5, 0)", x.draw(5, 0), 0);
        Check.due("told(4)", x.told(4), 1);
        x.draw(5, 1);
        Check.due("told(4) behind draw(5, 1)", x.told(4), 2);
        Check.due("of(1, 0), the only ROOT there is", x.of(1, 0), 0);
        x.draw(5, 59);
        Check.due("told(4) behind draw(5, 59)", x.told(4), 60);
        Check.due("add(0, 1) behind it", x.add(0, 1), -4);
        Check.due("draw(5, 60)", x.draw(5, 60), -2);
        Check.due("draw(5, -1)", x.draw(5, -1), -2);
        Check.due("told(4) behind both", x.told(4), 60);
    }

    private static void drawSeeds() {
        Check.edge(6, "X is SEED (0 .. 999999) at first;");
        RoadDepots x = new RoadDepots();
        // 12345 by 65536 is 0; by 1024 it is 12; by 32768 it is 0, which leaves 0.
        Check.due("draw(0, 1)", x.draw(0, 1), 1);
        Check.due("of(1, 1)", x.of(1, 1), 13);
        drawn(x, 999999, 3);
        Check.due("draw(1000000, 3)", x.draw(1000000, 3), -2);
        Check.due("draw(-1, 3)", x.draw(-1, 3), -2);
        Check.due("told(4)", x.told(4), 4);
    }

    private static void drawWrapsAround() {
        Check.edge(6, "for each X becomes X times 1103515245 and 12345, by 2147483648 what is left over: its ROOT X by 65536 (cut), by how many there are left over, LENGTH X by 1024, by 99, and 1, open, if X by 32768 (cut), by 4 leaves 0: how many are open.");
        RoadDepots x = new RoadDepots();
        for (int seed : new int[] {1, 2, 65535, 999999}) {
            drawn(x, seed, 24);
        }
        drawn(new RoadDepots(), 77777, 59);
    }

    /** Draws, and looks at each village by numbers that can not run over. */
    private static void drawn(RoadDepots x, int seed, int n) {
        int opened = x.draw(seed, n);
        BigInteger state = BigInteger.valueOf(seed);
        int open = 0;
        for (int v = 1; v <= n; v++) {
            state = state.multiply(BigInteger.valueOf(1103515245)).add(BigInteger.valueOf(12345)).mod(BigInteger.ONE.shiftLeft(31));
            String call = " of village " + v + " behind draw(" + seed + ", " + n + ")";
            Check.due("ROOT" + call, x.of(v, 0), state.shiftRight(16).intValue() % v);
            Check.due("LENGTH" + call, x.of(v, 1), state.shiftRight(10).intValue() % 99 + 1);
            int isOpen = state.shiftRight(15).intValue() % 4 == 0 ? 1 : 0;
            Check.due("DEPOT" + call, x.of(v, 2), isOpen);
            open += isOpen;
        }
        Check.due("draw(" + seed + ", " + n + ")", opened, open);
    }

    private static void drawStartsAnew() {
        Check.edge(6, "all DEPOTS shut but as told:");
        RoadDepots x = Check.star(60, 7);
        Check.open(x, 0, 1, 2, 3, 4, 5, 59);
        drawn(x, 7, 5);
        Check.due("of(0, 2)", x.of(0, 2), 0);
        Check.due("told(4)", x.told(4), 6);
        Check.due("of(6, 0)", x.of(6, 0), -2);
        Check.due("told(5)", x.told(5), x.of(1, 2) + x.of(2, 2) + x.of(3, 2) + x.of(4, 2) + x.of(5, 2));
    }

    private static void drawIsBad() {
        Check.edge(6, "BAD.");
        RoadDepots x = Check.star(3, 7);
        Check.open(x, 0);
        Check.due("draw(-1, 5)", x.draw(-1, 5), -2);
        Check.due("draw(1000000, 5)", x.draw(1000000, 5), -2);
        Check.due("draw(5, -1)", x.draw(5, -1), -2);
        Check.due("draw(5, 60)", x.draw(5, 60), -2);
        Check.due("told(0)", x.told(0), 4);
        Check.due("told(4), all are still there", x.told(4), 3);
        Check.due("of(0, 2)", x.of(0, 2), 1);
    }

    private static void ofVillage0() {
        Check.edge(7, "ROOT (0; of 0 NONE), LENGTH of the ROAD to it (1; of 0 0)");
        RoadDepots x = Check.star(3, 7);
        Check.due("of(0, 0)", x.of(0, 0), -1);
        Check.due("of(0, 1)", x.of(0, 1), 0);
        Check.due("of(2, 0)", x.of(2, 0), 0);
        Check.due("of(2, 1)", x.of(2, 1), 7);
        x.draw(3, 9);
        Check.due("of(0, 0) behind draw", x.of(0, 0), -1);
        Check.due("of(0, 1) behind draw", x.of(0, 1), 0);
        x.anew();
        Check.due("of(0, 0) behind anew", x.of(0, 0), -1);
    }

    private static void ofRoads() {
        Check.edge(7, "whether its DEPOT is open (2), how many ROADS it has (3).");
        RoadDepots x = Check.star(60, 7);
        Check.due("of(0, 3), no more can be", x.of(0, 3), 59);
        Check.due("of(59, 3), an end", x.of(59, 3), 1);
        Check.open(x, 59);
        Check.due("of(59, 2)", x.of(59, 2), 1);
        Check.due("of(58, 2)", x.of(58, 2), 0);
        RoadDepots row = Check.row(3, 7);
        Check.due("of(1, 3), one to its ROOT and one from it", row.of(1, 3), 2);
        Check.due("of(0, 3), alone", new RoadDepots().of(0, 3), 0);
    }

    private static void ofIsBad() {
        RoadDepots x = Check.star(3, 7);
        Check.edge(7, "Of a VILLAGE:");
        Check.due("of(-1, 0)", x.of(-1, 0), -2);
        Check.due("of(3, 0)", x.of(3, 0), -2);
        Check.edge(7, "BAD.");
        Check.due("of(0, -1)", x.of(0, -1), -2);
        Check.due("of(0, 4)", x.of(0, 4), -2);
        Check.due("told(0)", x.told(0), 4);
    }
}
