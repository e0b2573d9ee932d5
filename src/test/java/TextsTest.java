/** Promise 22 and the terms SENTENCES, FAULT, THE ANSWER: every text of up to four of these pieces, against the model. */
public final class TextsTest {
    private static final String[] PIECES = {
        "all", "open", "far", "add", "road", "within", "0", "1", "00", "2", "100", "99", ";", " ", "x", "X", "@", "allx",
        "add 0 99;", "way 1 2;",
    };
    private static final int MOST_PIECES = 4;
    private static int texts = 0;

    public static void main(String[] args) {
        from("", MOST_PIECES);
        Check.due("texts", texts, 1 + 20 + 20 * 20 + 20 * 20 * 20 + 20 * 20 * 20 * 20);
        Check.end();
    }

    private static void from(String text, int more) {
        compare(text);
        texts++;
        for (int i = 0; i < PIECES.length && more > 0; i++) {
            from(text + PIECES[i], more - 1);
        }
    }

    /** Two villages at first, so that only an add before it lets the number 2 stand. */
    private static void compare(String text) {
        RoadDepots x = new RoadDepots();
        Model model = new Model();
        x.add(0, 5);
        model.call("add", 0, 5, 0);
        x.depot(1, 1);
        model.call("depot", 1, 1, 0);
        for (int i = 0; i < text.length(); i++) {
            x.type(text.charAt(i));
            model.call("type", text.charAt(i), 0, 0);
        }
        Check.due("promise 22: says of '" + text + "'", x.says(), model.call("says", 0, 0, 0));
        Check.due("promise 22: digest behind '" + text + "'", x.digest(), model.digest());
    }
}
