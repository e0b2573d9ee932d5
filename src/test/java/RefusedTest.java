import java.util.ArrayList;
import java.util.List;

/** Every call that can be refused, by every wrong number: it changes nothing but how often, and that just once. */
public final class RefusedTest {
    private static final int BAD_COUNT = 0, FULL_COUNT = 2;
    /** Wrong wherever a village, an aspect, a length, a span, a seed or a byte is asked for. */
    private static final int[] NEVER_RIGHT = {Integer.MIN_VALUE, -1000000, -2, 1000000, Integer.MAX_VALUE};

    private interface Call {
        int on(RoadDepots x);
    }

    private interface History {
        RoadDepots make();
    }

    public static void main(String[] args) {
        land();
        ways();
        depots();
        words();
        full();
        badBeforeFull();
        questions();
        Check.end();
    }

    /** Nine villages, two open depots, an answer, another text that is not said yet, one refusal. */
    private static RoadDepots used() {
        RoadDepots x = Check.nineVillages();
        Check.open(x, 3, 5);
        Check.say(x, "near 0;");
        x.clear();
        Check.type(x, "open 8;sum 0;road 1 9;");
        x.told(7);
        return x;
    }

    private static RoadDepots fullLand() {
        RoadDepots x = new RoadDepots();
        x.draw(7, 59);
        Check.say(x, "near 9;");
        return x;
    }

    private static RoadDepots fullText() {
        RoadDepots x = Check.star(3, 7);
        Check.say(x, "open1;".repeat(20));
        return x;
    }

    private static void land() {
        Check.edge(2, "Refused, changing nothing but how often, the first of: BAD -2 a number is not as told;");
        int[] lengths = {-1, 0, 100};
        bad("add", x -> x.add(-1, 5), x -> x.add(9, 5));
        Check.edge(3, "BAD -2 a number is not as told;");
        bad("depot", x -> x.depot(-1, 1), x -> x.depot(9, 0), x -> x.depot(3, -1), x -> x.depot(0, 2));
        Check.edge(4, "BAD -2 a number is not as told;");
        bad("road", x -> x.road(-1, 5), x -> x.road(9, 5), x -> x.road(0, 5));
        for (int length : lengths) {
            Check.edge(2, "BAD -2 a number is not as told;");
            bad("add of length " + length, x -> x.add(0, length), x -> x.add(8, length));
            Check.edge(4, "BAD -2 a number is not as told;");
            bad("road of length " + length, x -> x.road(1, length), x -> x.road(8, length));
        }
        Check.edge(6, "BAD -2 a number is not as told;");
        bad("draw", x -> x.draw(-1, 5), x -> x.draw(1000000, 5), x -> x.draw(5, -1), x -> x.draw(5, 60));
        Check.edge(7, "BAD -2 a number is not as told;");
        bad("of", x -> x.of(-1, 0), x -> x.of(9, 0), x -> x.of(0, -1), x -> x.of(0, 4), x -> x.of(60, 3));
        for (int n : NEVER_RIGHT) {
            Check.edge(2, "BAD -2 a number is not as told;");
            bad("add by " + n, x -> x.add(n, 5), x -> x.add(0, n));
            Check.edge(3, "BAD -2 a number is not as told;");
            bad("depot by " + n, x -> x.depot(n, 1), x -> x.depot(0, n));
            Check.edge(4, "BAD -2 a number is not as told;");
            bad("road by " + n, x -> x.road(n, 5), x -> x.road(1, n));
            Check.edge(6, "BAD -2 a number is not as told;");
            bad("draw by " + n, x -> x.draw(n, 5), x -> x.draw(5, n), x -> x.draw(n, n));
            Check.edge(7, "BAD -2 a number is not as told;");
            bad("of by " + n, x -> x.of(n, 0), x -> x.of(0, n));
        }
    }

    private static void ways() {
        Check.edge(8, "BAD -2 a number is not as told;");
        bad("far", x -> x.far(-1, 0), x -> x.far(9, 0), x -> x.far(0, -1), x -> x.far(0, 9));
        Check.edge(9, "BAD: -10.");
        badPlace("way", x -> x.way(-1, 0, 0), x -> x.way(9, 0, 0), x -> x.way(0, -1, 0), x -> x.way(0, 9, 0));
        badPlace("way, k", x -> x.way(0, 8, -2), x -> x.way(0, 8, Integer.MIN_VALUE), x -> x.way(9, 9, -2));
        Check.edge(10, "BAD -2 a number is not as told;");
        bad("longest", x -> x.longest(-1), x -> x.longest(3));
        Check.edge(11, "BAD -2 a number is not as told;");
        bad("middle", x -> x.middle(-1), x -> x.middle(3));
        for (int n : NEVER_RIGHT) {
            Check.edge(8, "BAD -2 a number is not as told;");
            bad("far by " + n, x -> x.far(n, 0), x -> x.far(0, n), x -> x.far(n, n));
            Check.edge(9, "BAD: -10.");
            badPlace("way by " + n, x -> x.way(n, 0, -1), x -> x.way(0, n, -1), x -> x.way(n, n, 0));
            Check.edge(10, "BAD -2 a number is not as told;");
            bad("longest by " + n, x -> x.longest(n));
            Check.edge(11, "BAD -2 a number is not as told;");
            bad("middle by " + n, x -> x.middle(n));
        }
    }

    private static void depots() {
        Check.edge(12, "BAD -2 a number is not as told;");
        bad("nearest", x -> x.nearest(-1, 0), x -> x.nearest(9, 0), x -> x.nearest(0, -1), x -> x.nearest(0, 2));
        Check.edge(13, "BAD -2 a number is not as told;");
        bad("turn", x -> x.turn(-1, 0, 0), x -> x.turn(9, 0, 0), x -> x.turn(0, 0, -1), x -> x.turn(0, 0, 2));
        bad("turn, k", x -> x.turn(0, -1, 0), x -> x.turn(0, Integer.MIN_VALUE, 1));
        Check.edge(14, "BAD -2 a number is not as told;");
        bad("within", x -> x.within(-1, 0), x -> x.within(9, 0), x -> x.within(0, -1), x -> x.within(0, 6001));
        Check.edge(15, "BAD -2 a number is not as told;");
        bad("sum", x -> x.sum(-1), x -> x.sum(9));
        Check.edge(16, "BAD -2 a number is not as told;");
        bad("left", x -> x.left(-1), x -> x.left(2));
        Check.edge(17, "BAD -2 a number is not as told;");
        bad("more", x -> x.more(-1), x -> x.more(2));
        Check.edge(18, "BAD -2 a number is not as told;");
        bad("serves", x -> x.serves(-1), x -> x.serves(9));
        Check.edge(19, "BAD -2 a number is not as told;");
        bad("pair", x -> x.pair(-1), x -> x.pair(3));
        for (int n : NEVER_RIGHT) {
            Check.edge(12, "BAD -2 a number is not as told;");
            bad("nearest by " + n, x -> x.nearest(n, 0), x -> x.nearest(0, n));
            Check.edge(13, "BAD -2 a number is not as told;");
            bad("turn by " + n, x -> x.turn(n, 0, 0), x -> x.turn(0, 0, n), x -> x.turn(n, n, n));
            Check.edge(14, "BAD -2 a number is not as told;");
            bad("within by " + n, x -> x.within(n, 0), x -> x.within(0, n));
            Check.edge(15, "BAD -2 a number is not as told;");
            bad("sum by " + n, x -> x.sum(n));
            Check.edge(16, "BAD -2 a number is not as told;");
            bad("left by " + n, x -> x.left(n));
            Check.edge(17, "BAD -2 a number is not as told;");
            bad("more by " + n, x -> x.more(n));
            Check.edge(18, "BAD -2 a number is not as told;");
            bad("serves by " + n, x -> x.serves(n));
            Check.edge(19, "BAD -2 a number is not as told;");
            bad("pair by " + n, x -> x.pair(n));
        }
    }

    private static void words() {
        Check.edge(20, "BAD -2 a number is not as told;");
        bad("type", x -> x.type(-1), x -> x.type(128), x -> x.type(256 + 'a'));
        Check.edge(23, "BAD: -10.");
        badPlace("answer", x -> x.answer(-2), x -> x.answer(Integer.MIN_VALUE));
        Check.edge(24, "BAD -2 a number is not as told;");
        bad("told", x -> x.told(-1), x -> x.told(7));
        for (int n : NEVER_RIGHT) {
            Check.edge(20, "BAD -2 a number is not as told;");
            bad("type by " + n, x -> x.type(n));
            Check.edge(24, "BAD -2 a number is not as told;");
            bad("told by " + n, x -> x.told(n));
        }
    }

    private static void full() {
        Check.edge(2, "FULL -4 as many as may be");
        refused("add(0, 5) when there are 60", RefusedTest::fullLand, x -> x.add(0, 5), -4, FULL_COUNT);
        refused("add(59, 99) when there are 60", RefusedTest::fullLand, x -> x.add(59, 99), -4, FULL_COUNT);
        Check.edge(20, "FULL -4 as many as may be");
        refused("type(';') behind 120", RefusedTest::fullText, x -> x.type(';'), -4, FULL_COUNT);
        refused("type(0) behind 120", RefusedTest::fullText, x -> x.type(0), -4, FULL_COUNT);
    }

    private static void badBeforeFull() {
        Check.edge(2, "the first of: BAD -2 a number is not as told; FULL -4 as many as may be");
        refused("add(60, 5) when there are 60", RefusedTest::fullLand, x -> x.add(60, 5), -2, BAD_COUNT);
        refused("add(0, 100) when there are 60", RefusedTest::fullLand, x -> x.add(0, 100), -2, BAD_COUNT);
        Check.edge(20, "the first of: BAD -2 a number is not as told; FULL -4 as many as may be");
        refused("type(128) behind 120", RefusedTest::fullText, x -> x.type(128), -2, BAD_COUNT);
        refused("type(-1) behind 120", RefusedTest::fullText, x -> x.type(-1), -2, BAD_COUNT);
    }

    /** What is answered without an order in it leaves all as it was, how often refused too. */
    private static void questions() {
        Check.edge(17, "The shut DEPOT by which, opened too, LEFT is least");
        stays("more", x -> x.more(0), x -> x.more(1));
        Check.edge(18, "(were it open, if it is shut).");
        stays("serves", x -> x.serves(3), x -> x.serves(4));
        Check.edge(9, "-5: not so many.");
        stays("way", x -> x.way(8, 6, -1), x -> x.way(8, 6, 5), x -> x.way(8, 6, 6));
        Check.edge(23, "-5: not so many.");
        stays("answer", x -> x.answer(-1), x -> x.answer(0), x -> x.answer(3));
        Check.edge(13, "NONE: not so many are open.");
        stays("turn", x -> x.turn(0, 1, 0), x -> x.turn(0, 2, 0), x -> x.turn(0, 2, 1));
        Check.edge(16, "LEFT of the open ones: how FAR (0), the least VILLAGE that is so (1);");
        stays("left", x -> x.left(0), x -> x.left(1));
        Check.edge(24, "How often refused: BAD (0), NO (1), FULL (2);");
        stays("told", x -> x.told(0), x -> x.told(1), x -> x.told(6));
        Check.edge(3, "1, if it was otherwise, else 0.");
        stays("depot", x -> x.depot(3, 1), x -> x.depot(4, 0));
        Check.edge(25, "h = 1997;");
        stays("digest", x -> (int) x.digest());
    }

    private static void bad(String name, Call... calls) {
        for (int i = 0; i < calls.length; i++) {
            refused(name + ", wrong call " + i, RefusedTest::used, calls[i], -2, BAD_COUNT);
        }
    }

    private static void badPlace(String name, Call... calls) {
        for (int i = 0; i < calls.length; i++) {
            refused(name + ", wrong call " + i, RefusedTest::used, calls[i], -10, BAD_COUNT);
        }
    }

    /** Beside it stands an object with the same history on which the call was not made. */
    private static void refused(String name, History history, Call call, int due, int counted) {
        RoadDepots asked = history.make();
        RoadDepots twin = history.make();
        Check.due(name, call.on(asked), due);
        for (int what = 0; what < 3; what++) {
            int more = what == counted ? 1 : 0;
            Check.due("told(" + what + ") behind " + name, asked.told(what), twin.told(what) + more);
        }
        Check.dueText("all else behind " + name, seen(asked).toString(), seen(twin).toString());
    }

    private static void stays(String name, Call... calls) {
        RoadDepots asked = used();
        RoadDepots twin = used();
        for (Call call : calls) {
            call.on(asked);
        }
        Check.due("digest behind " + name, asked.digest(), twin.digest());
        Check.dueText("all behind " + name, seen(asked).toString(), seen(twin).toString());
    }

    /** All that calls can show, at last the text itself by what it does. */
    private static List<Integer> seen(RoadDepots x) {
        List<Integer> all = new ArrayList<>();
        for (int what = 3; what < 7; what++) {
            all.add(x.told(what));
        }
        seeLand(x, all);
        seeAnswer(x, all);
        all.add(x.says());
        all.add(x.far(0, 1));
        all.add(x.told(5));
        seeAnswer(x, all);
        return all;
    }

    private static void seeLand(RoadDepots x, List<Integer> all) {
        int villages = x.told(4);
        for (int v = 0; v < villages; v++) {
            for (int what = 0; what < 4; what++) {
                all.add(x.of(v, what));
            }
            all.add(x.far(villages - 1, v));
        }
        all.add(x.nearest(0, 0));
        all.add(x.longest(0));
    }

    private static void seeAnswer(RoadDepots x, List<Integer> all) {
        int signs = x.told(6);
        for (int k = 0; k < signs; k++) {
            all.add(x.answer(k));
        }
    }
}
