/** Promises 1 to 7: the land. */
public final class LandTest {
    private static final int[] NO_NUMBERS = {Integer.MIN_VALUE, -2, -1, Integer.MAX_VALUE};

    public static void main(String[] args) {
        newObject();
        add();
        depot();
        road();
        anew();
        draw();
        of();
        Check.end();
    }

    private static void newObject() {
        RoadDepots x = new RoadDepots();
        int[] told = {0, 0, 0, 0, 1, 0, 0};
        for (int what = 0; what < told.length; what++) {
            Check.due("1: told(" + what + ")", x.told(what), told[what]);
        }
        Check.due("1: of(0, 0)", x.of(0, 0), -1);
        Check.due("1: of(0, 1)", x.of(0, 1), 0);
        Check.due("1: of(0, 2)", x.of(0, 2), 0);
        Check.due("1: of(0, 3)", x.of(0, 3), 0);
        Check.due("1: answer(-1)", x.answer(-1), 0);
        Check.due("1: clear()", x.clear(), 0);
        RoadDepots other = new RoadDepots();
        x.add(0, 1);
        x.type(97);
        Check.due("1: objects share nothing, villages", other.told(4), 1);
        Check.due("1: objects share nothing, bytes", other.told(3), 0);
    }

    private static void add() {
        RoadDepots x = new RoadDepots();
        Check.due("2: add(0, 1)", x.add(0, 1), 1);
        Check.due("2: add(1, 99)", x.add(1, 99), 2);
        Check.due("2: far(0, 2)", x.far(0, 2), 100);
        Check.due("2: it comes shut", x.of(2, 2), 0);
        Check.due("2: add(3, 1)", x.add(3, 1), -2);
        Check.due("2: add(0, 0)", x.add(0, 0), -2);
        Check.due("2: add(0, 100)", x.add(0, 100), -2);
        for (int bad : NO_NUMBERS) {
            Check.due("2: add(" + bad + ", 1)", x.add(bad, 1), -2);
            Check.due("2: add(0, " + bad + ")", x.add(0, bad), -2);
        }
        Check.due("2: how often BAD", x.told(0), 11);
        Check.due("2: none came", x.told(4), 3);
        for (int v = 3; v < 60; v++) {
            Check.due("2: add(0, 7) as village " + v, x.add(0, 7), v);
        }
        Check.due("2: add(59, 1) when there are 60", x.add(59, 1), -4);
        Check.due("2: add(60, 1) when there are 60", x.add(60, 1), -2);
        Check.due("2: add(0, 0) when there are 60", x.add(0, 0), -2);
        Check.due("2: how often FULL", x.told(2), 1);
        Check.due("2: how often BAD then", x.told(0), 13);
        Check.due("2: still 60", x.told(4), 60);
    }

    private static void depot() {
        RoadDepots x = Check.row(3, 5);
        Check.due("3: depot(1, 0)", x.depot(1, 0), 0);
        Check.due("3: depot(1, 1)", x.depot(1, 1), 1);
        Check.due("3: depot(1, 1) again", x.depot(1, 1), 0);
        Check.due("3: of(1, 2)", x.of(1, 2), 1);
        Check.due("3: depot(2, 1)", x.depot(2, 1), 1);
        Check.due("3: told(5)", x.told(5), 2);
        Check.due("3: depot(1, 0)", x.depot(1, 0), 1);
        Check.due("3: depot(1, 0) again", x.depot(1, 0), 0);
        Check.due("3: told(5)", x.told(5), 1);
        Check.due("3: depot(3, 1)", x.depot(3, 1), -2);
        Check.due("3: depot(0, 2)", x.depot(0, 2), -2);
        for (int bad : NO_NUMBERS) {
            Check.due("3: depot(" + bad + ", 1)", x.depot(bad, 1), -2);
            Check.due("3: depot(0, " + bad + ")", x.depot(0, bad), -2);
        }
        Check.due("3: how often BAD", x.told(0), 10);
        Check.due("3: of(0, 2)", x.of(0, 2), 0);
        Check.due("3: told(5)", x.told(5), 1);
    }

    private static void road() {
        RoadDepots x = Check.nineVillages();
        Check.due("4: road(1, 50)", x.road(1, 50), 3);
        Check.due("4: road(1, 99)", x.road(1, 99), 50);
        Check.due("4: far(0, 7)", x.far(0, 7), 113);
        Check.due("4: far(7, 6)", x.far(7, 6), 125);
        Check.due("4: far(7, 8)", x.far(7, 8), 19);
        Check.due("4: far(5, 6)", x.far(5, 6), 15);
        Check.due("4: road(1, 1)", x.road(1, 1), 99);
        Check.due("4: far(8, 0)", x.far(8, 0), 16);
        Check.due("4: of(1, 1)", x.of(1, 1), 1);
        Check.due("4: road(0, 5)", x.road(0, 5), -2);
        Check.due("4: road(9, 5)", x.road(9, 5), -2);
        Check.due("4: road(1, 0)", x.road(1, 0), -2);
        Check.due("4: road(1, 100)", x.road(1, 100), -2);
        for (int bad : NO_NUMBERS) {
            Check.due("4: road(" + bad + ", 5)", x.road(bad, 5), -2);
            Check.due("4: road(1, " + bad + ")", x.road(1, bad), -2);
        }
        Check.due("4: how often BAD", x.told(0), 12);
        Check.due("4: of(0, 1)", x.of(0, 1), 0);
        Check.due("4: of(1, 1)", x.of(1, 1), 1);
    }

    private static void anew() {
        RoadDepots x = Check.nineVillages();
        Check.open(x, 0, 3, 8);
        Check.said(x, "all;", "0,3,8");
        x.add(0, 0);
        Check.due("5: anew()", x.anew(), 9);
        Check.due("5: anew() again", x.anew(), 1);
        Check.due("5: villages", x.told(4), 1);
        Check.due("5: open", x.told(5), 0);
        Check.due("5: of(0, 2)", x.of(0, 2), 0);
        Check.due("5: of(0, 3)", x.of(0, 3), 0);
        Check.due("5: nearest(0, 0)", x.nearest(0, 0), -1);
        Check.due("5: the text stays", x.told(3), 4);
        Check.due("5: the answer stays", x.told(6), 5);
        Check.due("5: how often BAD stays", x.told(0), 1);
        Check.due("5: add(0, 2)", x.add(0, 2), 1);
        Check.due("5: add(1, 9)", x.add(1, 9), 2);
        Check.due("5: add(2, 1)", x.add(2, 1), 3);
        Check.due("5: 3 comes shut", x.of(3, 2), 0);
        Check.due("5: far(0, 3)", x.far(0, 3), 12);
    }

    private static void draw() {
        RoadDepots x = Check.nineVillages();
        Check.open(x, 0, 1, 2, 3, 4, 5, 6, 7, 8);
        x.add(0, 0);
        drawn(x, 0, 59);
        drawn(x, 999999, 59);
        drawn(x, 7, 1);
        drawn(x, 123456, 20);
        Check.due("6: draw(42, 5)", x.draw(42, 5), 1);
        Check.due("6: of(5, 1)", x.of(5, 1), 70);
        x.depot(0, 1);
        Check.due("6: draw(5, 0)", x.draw(5, 0), 0);
        Check.due("6: villages", x.told(4), 1);
        Check.due("6: of(0, 2)", x.of(0, 2), 0);
        x.draw(7, 9);
        long before = x.told(5);
        Check.due("6: draw(1000000, 5)", x.draw(1000000, 5), -2);
        Check.due("6: draw(5, 60)", x.draw(5, 60), -2);
        for (int bad : NO_NUMBERS) {
            Check.due("6: draw(" + bad + ", 5)", x.draw(bad, 5), -2);
            Check.due("6: draw(5, " + bad + ")", x.draw(5, bad), -2);
        }
        Check.due("6: how often BAD", x.told(0), 11);
        Check.due("6: villages stay", x.told(4), 10);
        Check.due("6: depots stay", x.told(5), before);
    }

    /** Draws, and looks at each village by the rule of the document. */
    private static void drawn(RoadDepots x, int seed, int n) {
        String call = "6: draw(" + seed + ", " + n + ")";
        int opened = x.draw(seed, n);
        long state = seed;
        int open = 0;
        for (int v = 1; v <= n; v++) {
            state = (state * 1103515245L + 12345L) % 2147483648L;
            Check.due(call + " of(" + v + ", 0)", x.of(v, 0), state / 65536 % v);
            Check.due(call + " of(" + v + ", 1)", x.of(v, 1), state / 1024 % 99 + 1);
            int isOpen = state / 32768 % 4 == 0 ? 1 : 0;
            Check.due(call + " of(" + v + ", 2)", x.of(v, 2), isOpen);
            open += isOpen;
        }
        Check.due(call, opened, open);
        Check.due(call + " told(4)", x.told(4), n + 1);
        Check.due(call + " told(5)", x.told(5), open);
        Check.due(call + " of(0, 2)", x.of(0, 2), 0);
    }

    private static void of() {
        RoadDepots x = Check.nineVillages();
        Check.open(x, 3);
        int[][] due = {
            {-1, 0, 0, 2}, {0, 3, 0, 3}, {0, 4, 0, 3}, {1, 5, 1, 3}, {1, 6, 0, 1},
            {2, 7, 0, 1}, {2, 8, 0, 1}, {3, 9, 0, 1}, {3, 10, 0, 1},
        };
        for (int v = 0; v < due.length; v++) {
            for (int what = 0; what < 4; what++) {
                Check.due("7: of(" + v + ", " + what + ")", x.of(v, what), due[v][what]);
            }
        }
        Check.due("7: of(9, 0)", x.of(9, 0), -2);
        Check.due("7: of(0, 4)", x.of(0, 4), -2);
        for (int bad : NO_NUMBERS) {
            Check.due("7: of(" + bad + ", 0)", x.of(bad, 0), -2);
            Check.due("7: of(0, " + bad + ")", x.of(0, bad), -2);
        }
        Check.due("7: how often BAD", x.told(0), 10);
    }
}
