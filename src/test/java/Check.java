/** What the tests share: counting wrong answers, typing texts, reading the answer. */
final class Check {
    private static int wrong = 0;
    private static String sentence = "";

    private Check() {
    }

    /** What is checked from here on holds to this sentence of the document; QuotesTest looks the sentence up. */
    static void edge(int promise, String quote) {
        sentence = "promise " + promise + ", '" + quote + "': ";
    }

    static void due(String call, long got, long want) {
        if (got != want) {
            wrong++;
            System.out.println(sentence + call + " answered " + got + ", due is " + want);
        }
    }

    static void dueText(String call, String got, String want) {
        if (!got.equals(want)) {
            wrong++;
            System.out.println(sentence + call + " answered '" + got + "', due is '" + want + "'");
        }
    }

    static void type(RoadDepots x, String text) {
        for (int i = 0; i < text.length(); i++) {
            x.type(text.charAt(i));
        }
    }

    /** Types the text in place of the old one and has it said. */
    static int say(RoadDepots x, String text) {
        x.clear();
        type(x, text);
        return x.says();
    }

    static String line(RoadDepots x) {
        StringBuilder signs = new StringBuilder();
        int size = x.answer(RoadDepots.NONE);
        for (int k = 0; k < size; k++) {
            signs.append((char) x.answer(k));
        }
        return signs.toString();
    }

    /** The text is done, answers this, and has as many sentences as it has semicolons. */
    static void said(RoadDepots x, String text, String answer) {
        int sentences = text.length() - text.replace(";", "").length();
        due("says of '" + text + "'", say(x, text), sentences);
        dueText("'" + text + "'", line(x), answer);
    }

    /** The text has its fault there, and the call changes nothing that the digest shows. */
    static void fault(RoadDepots x, String text, int place) {
        x.clear();
        type(x, text);
        long before = x.digest();
        due("says of '" + text + "'", x.says(), -10 - place);
        due("digest after the fault of '" + text + "'", x.digest(), before);
    }

    /** 0 -3- 1 -5- 3 and 1 -6- 4; 0 -4- 2 -7- 5 and 2 -8- 6; 3 -9- 7 and 3 -10- 8. */
    static RoadDepots nineVillages() {
        RoadDepots x = new RoadDepots();
        int[][] roads = {{0, 3}, {0, 4}, {1, 5}, {1, 6}, {2, 7}, {2, 8}, {3, 9}, {3, 10}};
        for (int[] road : roads) {
            x.add(road[0], road[1]);
        }
        return x;
    }

    /** 0 - 1 - 2 .. in a row, all roads of one length. */
    static RoadDepots row(int villages, int length) {
        RoadDepots x = new RoadDepots();
        for (int v = 1; v < villages; v++) {
            x.add(v - 1, length);
        }
        return x;
    }

    /** 0 with villages around it, all roads of one length. */
    static RoadDepots star(int villages, int length) {
        RoadDepots x = new RoadDepots();
        for (int v = 1; v < villages; v++) {
            x.add(0, length);
        }
        return x;
    }

    static void open(RoadDepots x, int... depots) {
        for (int v : depots) {
            x.depot(v, 1);
        }
    }

    static void end() {
        if (wrong != 0) {
            System.out.println(wrong + " wrong");
            System.exit(1);
        }
    }
}
