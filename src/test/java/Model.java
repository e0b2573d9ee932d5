import java.util.ArrayList;
import java.util.Collections;
import java.util.Comparator;
import java.util.List;
import java.util.regex.Matcher;
import java.util.regex.Pattern;
import java.util.stream.Collectors;
import java.util.stream.IntStream;

/** The document told a second time, by other means than the program's: slow, plain, with the Java library. */
final class Model {
    private static final Pattern PIECE = Pattern.compile("[a-z]+|[0-9]+|[^ ]", Pattern.DOTALL);

    private final List<Integer> roots = new ArrayList<>();
    private final List<Integer> lengths = new ArrayList<>();
    private final List<Boolean> open = new ArrayList<>();
    private final int[] refused = new int[3];
    private String text = "";
    private String answer = "";

    Model() {
        alone();
    }

    int call(String name, int a, int b, int c) {
        switch (name) {
            case "add": return isBad(!there(a) || !length(b)) ? -2 : roots.size() == 60 ? full() : come(a, b);
            case "depot": return isBad(!there(a) || b < 0 || b > 1) ? -2 : set(a, b == 1);
            case "road": return isBad(!there(a) || a == 0 || !length(b)) ? -2 : lengths.set(a, b);
            case "anew": return alone();
            case "draw": return isBad(a < 0 || a > 999999 || b < 0 || b > 59) ? -2 : draw(a, b);
            case "of": return isBad(!there(a) || b < 0 || b > 3) ? -2 : of(a, b);
            case "far": return isBad(!there(a) || !there(b)) ? -2 : far(a, b);
            case "way": return isBad(!there(a) || !there(b) || c < -1) ? -10 : kth(way(a, b), c);
            case "longest": return isBad(a < 0 || a > 2) ? -2 : longest(a);
            case "middle": return isBad(a < 0 || a > 2) ? -2 : middle(a);
            case "nearest": return isBad(!there(a) || b < 0 || b > 1) ? -2 : turn(a, 0, b);
            case "turn": return isBad(!there(a) || b < 0 || c < 0 || c > 1) ? -2 : turn(a, b, c);
            case "within": return isBad(!there(a) || b < 0 || b > 6000) ? -2 : within(a, b);
            case "sum": return isBad(!there(a)) ? -2 : sum(a);
            case "left": return isBad(a < 0 || a > 1) ? -2 : left(a);
            case "more": return isBad(a < 0 || a > 1) ? -2 : more(a);
            case "serves": return isBad(!there(a)) ? -2 : serves(a);
            case "pair": return isBad(a < 0 || a > 2) ? -2 : pair(a);
            case "type": return isBad(a < 0 || a > 127) ? -2 : text.length() == 120 ? full() : type(a);
            case "clear": return clear();
            case "says": return says();
            case "answer": return isBad(a < -1) ? -10 : answer(a);
            case "told": return isBad(a < 0 || a > 6) ? -2 : told(a);
            default: throw new IllegalArgumentException(name);
        }
    }

    long digest() {
        List<Integer> all = new ArrayList<>();
        for (int what = 0; what < 7; what++) {
            all.add(told(what));
        }
        for (int v : villages()) {
            Collections.addAll(all, of(v, 0), of(v, 1), of(v, 2));
        }
        answer.chars().forEach(all::add);
        long h = 1997;
        for (int v : all) {
            h = h * 31 + v;
        }
        return h;
    }

    private boolean isBad(boolean bad) {
        if (bad) {
            refused[0]++;
        }
        return bad;
    }

    private int full() {
        refused[2]++;
        return -4;
    }

    private boolean there(int v) {
        return v >= 0 && v < roots.size();
    }

    private static boolean length(int n) {
        return n >= 1 && n <= 99;
    }

    private List<Integer> villages() {
        return IntStream.range(0, roots.size()).boxed().collect(Collectors.toList());
    }

    private List<Integer> opened() {
        return villages().stream().filter(open::get).collect(Collectors.toList());
    }

    private int alone() {
        int were = roots.size();
        roots.clear();
        lengths.clear();
        open.clear();
        come(-1, 0);
        return were;
    }

    private int come(int root, int length) {
        roots.add(root);
        lengths.add(length);
        open.add(false);
        return roots.size() - 1;
    }

    private int set(int v, boolean now) {
        return open.set(v, now) == now ? 0 : 1;
    }

    private int draw(int seed, int n) {
        alone();
        long x = seed;
        for (int i = 0; i < n; i++) {
            x = (x * 1103515245L + 12345L) & 0x7fffffffL;
            come((int) ((x >> 16) % roots.size()), (int) ((x >> 10) % 99 + 1));
            open.set(i + 1, ((x >> 15) & 3) == 0);
        }
        return opened().size();
    }

    private List<Integer> neighbours(int v) {
        List<Integer> found = villages().stream().filter(u -> roots.get(u) == v).collect(Collectors.toList());
        if (v > 0) {
            found.add(roots.get(v));
        }
        return found;
    }

    private int of(int v, int what) {
        int[] all = {roots.get(v), lengths.get(v), open.get(v) ? 1 : 0, neighbours(v).size()};
        return all[what];
    }

    private List<Integer> way(int u, int v) {
        return search(u, v, -1);
    }

    /** The way from u to v that does not go back to where it came from; null, if there is none. */
    private List<Integer> search(int u, int v, int from) {
        List<Integer> way = new ArrayList<>();
        way.add(u);
        if (u == v) {
            return way;
        }
        for (int next : neighbours(u)) {
            List<Integer> rest = next == from ? null : search(next, v, u);
            if (rest != null) {
                way.addAll(rest);
                return way;
            }
        }
        return null;
    }

    private static int kth(List<Integer> all, int k) {
        return k == -1 ? all.size() : k < all.size() ? all.get(k) : -5;
    }

    private int far(int u, int v) {
        List<Integer> toFirst = upTo0(u);
        List<Integer> toSecond = upTo0(v);
        List<Integer> once = new ArrayList<>(toFirst);
        once.removeAll(toSecond);
        toSecond.removeAll(toFirst);
        once.addAll(toSecond);
        return once.stream().mapToInt(lengths::get).sum();
    }

    private List<Integer> upTo0(int v) {
        List<Integer> all = new ArrayList<>();
        for (int at = v; at != -1; at = roots.get(at)) {
            all.add(at);
        }
        return all;
    }

    private int longest(int what) {
        int[] best = {-1, 0, 0};
        for (int u : villages()) {
            for (int v : villages()) {
                if (far(u, v) > best[0]) {
                    best = new int[] {far(u, v), u, v};
                }
            }
        }
        return best[what];
    }

    private int middle(int what) {
        return villages().stream().min(Comparator.comparing(v -> burden(v, what))).get();
    }

    private int burden(int v, int what) {
        if (what == 0) {
            return villages().stream().mapToInt(u -> far(u, v)).max().getAsInt();
        }
        if (what == 1) {
            return villages().stream().mapToInt(u -> far(u, v)).sum();
        }
        return neighbours(v).stream().mapToInt(u -> hangs(u, v)).max().orElse(0);
    }

    private int hangs(int v, int from) {
        return 1 + neighbours(v).stream().filter(u -> u != from).mapToInt(u -> hangs(u, v)).sum();
    }

    private int turn(int v, int k, int what) {
        List<Integer> order = byTurn(v, opened());
        if (k >= order.size()) {
            return -1;
        }
        return what == 0 ? order.get(k) : far(v, order.get(k));
    }

    private List<Integer> byTurn(int v, List<Integer> depots) {
        List<Integer> order = new ArrayList<>(depots);
        order.sort(Comparator.comparing((Integer d) -> far(v, d)).thenComparing(d -> d));
        return order;
    }

    private int within(int v, int n) {
        return (int) opened().stream().filter(d -> far(v, d) <= n).count();
    }

    private int sum(int v) {
        return opened().stream().mapToInt(d -> far(v, d)).sum();
    }

    private int reach(int v, List<Integer> depots) {
        return far(v, byTurn(v, depots).get(0));
    }

    private int leftOf(List<Integer> depots) {
        return villages().stream().mapToInt(v -> reach(v, depots)).max().getAsInt();
    }

    private int left(int what) {
        if (opened().isEmpty()) {
            return -1;
        }
        int far = leftOf(opened());
        return what == 0 ? far : villages().stream().filter(v -> reach(v, opened()) == far).findFirst().get();
    }

    private List<Integer> and(int depot) {
        List<Integer> depots = opened();
        if (!depots.contains(depot)) {
            depots.add(depot);
        }
        return depots;
    }

    private int more(int what) {
        int best = -1;
        int least = -1;
        for (int d : villages()) {
            if (!open.get(d)) {
                int rest = leftOf(and(d));
                if (best == -1 || rest < least) {
                    best = d;
                    least = rest;
                }
            }
        }
        return what == 0 ? best : least;
    }

    private int serves(int depot) {
        return (int) villages().stream().filter(v -> byTurn(v, and(depot)).get(0) == depot).count();
    }

    private int pair(int what) {
        List<int[]> pairs = new ArrayList<>();
        for (int d : opened()) {
            for (int e : opened()) {
                if (d < e) {
                    pairs.add(new int[] {far(d, e), d, e});
                }
            }
        }
        pairs.sort(Comparator.comparing((int[] p) -> p[0]).thenComparing(p -> p[1]).thenComparing(p -> p[2]));
        return pairs.isEmpty() ? -1 : pairs.get(0)[what];
    }

    private int type(int c) {
        text += (char) c;
        return text.length();
    }

    private int clear() {
        int had = text.length();
        text = "";
        return had;
    }

    private int answer(int k) {
        return k == -1 ? answer.length() : k < answer.length() ? answer.charAt(k) : -5;
    }

    private int told(int what) {
        int[] all = {refused[0], refused[1], refused[2], text.length(), roots.size(), opened().size(), answer.length()};
        return all[what];
    }

    private int says() {
        List<String> pieces = new ArrayList<>();
        List<Integer> places = new ArrayList<>();
        Matcher matcher = PIECE.matcher(text);
        while (matcher.find()) {
            pieces.add(matcher.group());
            places.add(matcher.start());
        }
        places.add(text.length());
        int wrong = wrongPiece(pieces);
        if (wrong != -1) {
            return -10 - places.get(wrong);
        }
        List<String> answers = new ArrayList<>();
        for (String sentence : String.join(" ", pieces).split(";")) {
            String[] parts = sentence.trim().split(" ");
            int a = parts.length > 1 ? Integer.parseInt(parts[1]) : 0;
            int b = parts.length > 2 ? Integer.parseInt(parts[2]) : 0;
            answers.add(tell(parts[0], a, b));
        }
        String all = String.join(" ", answers);
        answer = all.substring(0, Math.min(400, all.length()));
        return answers.size();
    }

    /** Which piece can not stand there (behind the last: it ends too early), or -1. */
    private int wrongPiece(List<String> pieces) {
        int villages = roots.size();
        int at = 0;
        do {
            String word = at < pieces.size() ? pieces.get(at) : "";
            String needs = needs(word);
            if (needs == null || word.equals("add") && villages == 60) {
                return at;
            }
            at++;
            for (char need : needs.toCharArray()) {
                String piece = at < pieces.size() ? pieces.get(at) : "";
                if (!suits(need, piece, villages)) {
                    return at;
                }
                at++;
            }
            villages += word.equals("add") ? 1 : 0;
        } while (at < pieces.size());
        return -1;
    }

    private static String needs(String word) {
        switch (word) {
            case "add": return "vl;";
            case "road": return "rl;";
            case "open": case "shut": case "near": case "sum": return "v;";
            case "far": case "way": return "vv;";
            case "within": return "vn;";
            case "all": return ";";
            default: return null;
        }
    }

    private static boolean suits(char need, String piece, int villages) {
        if (need == ';') {
            return piece.equals(";");
        }
        if (!piece.matches("[0-9]{1,2}")) {
            return false;
        }
        int n = Integer.parseInt(piece);
        return need == 'v' ? n < villages : need == 'r' ? n > 0 && n < villages : need == 'n' || n > 0;
    }

    private String tell(String word, int a, int b) {
        switch (word) {
            case "add": return "" + come(a, b);
            case "open": return "" + set(a, true);
            case "shut": return "" + set(a, false);
            case "road": return "" + lengths.set(a, b);
            case "near": return opened().isEmpty() ? "-" : turn(a, 0, 0) + "@" + turn(a, 0, 1);
            case "far": return "" + far(a, b);
            case "way": return join(way(a, b), ">");
            case "within": return "" + within(a, b);
            case "all": return opened().isEmpty() ? "-" : join(opened(), ",");
            default: return "" + sum(a);
        }
    }

    private static String join(List<Integer> all, String between) {
        return all.stream().map(String::valueOf).collect(Collectors.joining(between));
    }
}
