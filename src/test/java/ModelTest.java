import java.util.Random;

/** All promises: long runs of calls that a seeded source chooses, each answer against the model's. */
public final class ModelTest {
    private static final String[] CALLS = {
        "add", "add", "add", "add", "depot", "depot", "depot", "road", "road", "anew", "draw", "of", "far", "way",
        "longest", "middle", "nearest", "turn", "within", "sum", "left", "more", "serves", "pair", "type", "clear",
        "says", "answer", "told",
    };
    private static final int RUNS = 400;
    /** What an object answers behind its 512th call is free. */
    private static final int CALLS_OF_A_RUN = 512;

    private final Random random;
    private final String name;
    private final RoadDepots x = new RoadDepots();
    private final Model model = new Model();
    private int calls = 0;

    private ModelTest(int seed) {
        random = new Random(seed);
        name = "run " + seed + ", call ";
    }

    public static void main(String[] args) {
        for (int seed = 0; seed < RUNS; seed++) {
            new ModelTest(seed).run();
        }
        Check.end();
    }

    private void run() {
        boolean small = random.nextBoolean();
        while (calls < CALLS_OF_A_RUN) {
            String call = CALLS[random.nextInt(CALLS.length)];
            boolean spares = !small && (call.equals("anew") || call.equals("draw"));
            if (spares && random.nextInt(20) > 0) {
                continue;
            }
            if (random.nextInt(12) == 0) {
                sayText();
            } else {
                both(call, number(call, 0), number(call, 1), number(call, 2));
            }
        }
    }

    private int number(String call, int which) {
        int there = villages();
        switch (random.nextInt(24)) {
            case 0: return -1;
            case 1: return there;
            case 2: return random.nextInt();
            case 3: return new int[] {-2, 99, 100, 6000, 6001, 59, 60, 127, 128, 999999, 1000000}[random.nextInt(11)];
            default: break;
        }
        if (call.equals("draw") && which == 0) {
            return random.nextInt(1000000);
        }
        if (call.equals("within") && which == 1) {
            return random.nextInt(random.nextBoolean() ? 100 : 1000);
        }
        if (call.equals("type")) {
            return random.nextInt(128);
        }
        boolean isLength = (call.equals("add") || call.equals("road")) && which == 1;
        if (isLength) {
            return 1 + random.nextInt(random.nextBoolean() ? 3 : 99);
        }
        return random.nextInt(random.nextBoolean() ? 3 : there);
    }

    private int villages() {
        return model.call("told", 4, 0, 0);
    }

    private void both(String call, int a, int b, int c) {
        if (calls + 2 > CALLS_OF_A_RUN) {
            return;
        }
        calls += 2;
        String shown = name + calls + ": " + call + "(" + a + ", " + b + ", " + c + ")";
        Check.due(shown, real(call, a, b, c), model.call(call, a, b, c));
        Check.due(shown + " digest", x.digest(), model.digest());
    }

    private void sayText() {
        both("clear", 0, 0, 0);
        int sentences = random.nextInt(9);
        StringBuilder text = new StringBuilder();
        for (int i = 0; i < sentences; i++) {
            text.append(sentence());
        }
        if (random.nextInt(3) == 0 && text.length() > 0) {
            text.setCharAt(random.nextInt(text.length()), " ;x0a1,9".charAt(random.nextInt(8)));
        }
        if (random.nextInt(4) == 0 && text.length() > 0) {
            text.setLength(random.nextInt(text.length()));
        }
        for (int i = 0; i < text.length(); i++) {
            both("type", text.charAt(i), 0, 0);
        }
        both("says", 0, 0, 0);
        for (int k = -1; k <= Math.min(model.call("told", 6, 0, 0), 30); k++) {
            both("answer", k, 0, 0);
        }
    }

    private String sentence() {
        String[] words = {
            "add V L", "open V", "open V", "shut V", "road V L", "near V", "far V V", "way V V", "within V N", "all", "sum V",
        };
        String blank = random.nextInt(4) == 0 ? "  " : random.nextInt(4) == 0 ? "" : " ";
        String sentence = words[random.nextInt(words.length)].replaceFirst(" ", blank);
        for (int i = 0; i < 2; i++) {
            sentence = sentence.replaceFirst("V", figures(villages()));
        }
        sentence = sentence.replaceFirst("L", "" + (1 + random.nextInt(99)));
        sentence = sentence.replaceFirst("N", "" + random.nextInt(100));
        return sentence + (random.nextInt(8) == 0 ? " ; " : ";");
    }

    private String figures(int there) {
        int most = random.nextInt(12) == 0 ? 101 : there;
        int v = random.nextInt(most);
        return v < 10 && random.nextInt(5) == 0 ? "0" + v : "" + v;
    }

    private int real(String call, int a, int b, int c) {
        switch (call) {
            case "add": return x.add(a, b);
            case "depot": return x.depot(a, b);
            case "road": return x.road(a, b);
            case "anew": return x.anew();
            case "draw": return x.draw(a, b);
            case "of": return x.of(a, b);
            case "far": return x.far(a, b);
            case "way": return x.way(a, b, c);
            case "longest": return x.longest(a);
            case "middle": return x.middle(a);
            case "nearest": return x.nearest(a, b);
            case "turn": return x.turn(a, b, c);
            case "within": return x.within(a, b);
            case "sum": return x.sum(a);
            case "left": return x.left(a);
            case "more": return x.more(a);
            case "serves": return x.serves(a);
            case "pair": return x.pair(a);
            case "type": return x.type(a);
            case "clear": return x.clear();
            case "says": return x.says();
            case "answer": return x.answer(a);
            case "told": return x.told(a);
            default: throw new IllegalArgumentException(call);
        }
    }
}
