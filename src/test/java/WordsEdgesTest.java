import java.math.BigInteger;

/** Promises 20 to 25, edge by edge: each test names the promise and the sentence of the document that it holds to. */
public final class WordsEdgesTest {
    public static void main(String[] args) {
        typeBytes();
        typeIsFull();
        typeIsBadBeforeFull();
        clearOfAny();
        sentenceEnds();
        blanksBetween();
        numbersOfOneOrTwoFigures();
        addByWords();
        openAndShutByWords();
        roadByWords();
        nearByWords();
        farByWords();
        wayByWords();
        withinByWords();
        allByWords();
        sumByWords();
        firstFault();
        wordsThatAreNone();
        signsThatAreNone();
        threeFigures();
        villagesThatAreNone();
        villagesByThen();
        lengths();
        addOfSixty();
        endsTooEarly();
        emptyText();
        nothingIsDoneByAFault();
        nothingCountsByAFault();
        sentencesOneByOne();
        howManyAreDone();
        faultIsTaken();
        answersWithBlanks();
        answerIsEmptyAtFirst();
        answerOf400();
        answerOf401();
        answerCutAtABlank();
        answerKth();
        answerNotSoMany();
        answerIsBad();
        toldRefusals();
        toldSizes();
        toldIsBad();
        toldOf512Calls();
        digestOfANewObject();
        digestOfVillages();
        digestWrapsAround();
        Check.end();
    }

    private static void typeBytes() {
        Check.edge(20, "A byte (0 .. 127) comes behind THE TEXT: how many it has.");
        RoadDepots x = new RoadDepots();
        Check.due("type(0)", x.type(0), 1);
        Check.due("type(127)", x.type(127), 2);
        Check.due("type(-1)", x.type(-1), -2);
        Check.due("type(128)", x.type(128), -2);
        Check.due("told(3)", x.told(3), 2);
        RoadDepots y = new RoadDepots();
        Check.type(y, "op");
        y.says();
        Check.type(y, "en 0;");
        Check.due("says(), the bytes stand in order", y.says(), 1);
    }

    private static void typeIsFull() {
        Check.edge(20, "FULL: 120.");
        RoadDepots x = new RoadDepots();
        for (int n = 1; n <= 120; n++) {
            Check.due("type as byte " + n, x.type("all;".charAt((n - 1) % 4)), n);
        }
        Check.due("type(97) behind 120", x.type(97), -4);
        Check.due("told(2)", x.told(2), 1);
        Check.due("told(0)", x.told(0), 0);
        Check.edge(20, "THE TEXT (120 bytes at most)");
        Check.due("told(3)", x.told(3), 120);
        Check.due("says(), all 120 are read", x.says(), 30);
        Check.due("type(97), still full", x.type(97), -4);
        Check.due("clear()", x.clear(), 120);
        Check.due("type(97), there is room again", x.type(97), 1);
    }

    private static void typeIsBadBeforeFull() {
        Check.edge(20, "BAD;");
        RoadDepots x = new RoadDepots();
        Check.type(x, "all;".repeat(30));
        Check.due("type(128) behind 120", x.type(128), -2);
        Check.due("type(-1) behind 120", x.type(-1), -2);
        Check.due("told(0)", x.told(0), 2);
        Check.due("told(2)", x.told(2), 0);
    }

    private static void clearOfAny() {
        Check.edge(21, "THE TEXT is empty: how many it had.");
        RoadDepots x = new RoadDepots();
        Check.due("clear() of an empty one", x.clear(), 0);
        Check.type(x, "all;".repeat(30));
        Check.due("clear() of a full one", x.clear(), 120);
        Check.due("clear() again", x.clear(), 0);
        Check.due("told(3)", x.told(3), 0);
        Check.due("says() of nothing", x.says(), -10);
        Check.type(x, "a");
        Check.due("clear() of one byte", x.clear(), 1);
    }

    private static void sentenceEnds() {
        Check.edge(22, "tells SENTENCES, each ended by ; :");
        RoadDepots x = new RoadDepots();
        Check.said(x, "all;", "-");
        Check.said(x, "all;all;", "- -");
        Check.fault(x, "all", 3);
        Check.fault(x, "all;all", 7);
        Check.fault(x, "all all;", 4);
        Check.fault(x, "sum 0 all;", 6);
        Check.fault(x, ";", 0);
        Check.fault(x, "all;;", 4);
        Check.fault(x, "all,all;", 3);
    }

    private static void blanksBetween() {
        Check.edge(22, "blanks (32) between, needed only between figures):");
        RoadDepots x = new RoadDepots();
        Check.said(x, "far0 0;", "0");
        Check.said(x, "  far   0   0  ;  all  ;", "0 -");
        Check.said(x, "sum0;all;", "0 -");
        Check.said(x, "all;  ", "-");
        Check.fault(x, "far00;", 5);
        Check.fault(x, "far 00;", 6);
        Check.fault(x, "f ar 0 0;", 0);
        Check.fault(x, "all\t;", 3);
        Check.fault(x, (char) 31 + "all;", 0);
        Check.fault(x, "all;!", 4);
    }

    private static void numbersOfOneOrTwoFigures() {
        Check.edge(22, "a word and NUMBERS (1 or 2 figures;");
        RoadDepots x = Check.star(11, 7);
        Check.said(x, "far 9 10;far 09 00;far 00 9;", "14 7 7");
        Check.fault(x, "far 9 010;", 6);
        Check.fault(x, "far 009 0;", 4);
        Check.fault(x, "far ;", 4);
        Check.fault(x, "far 9;", 5);
        Check.fault(x, "far 9 10 1;", 9);
        Check.fault(x, "all 1;", 4);
        Check.fault(x, "sum 1 1;", 6);
    }

    private static void addByWords() {
        Check.edge(22, "add v n: a VILLAGE comes to v on a ROAD of LENGTH n: answers its number.");
        RoadDepots x = new RoadDepots();
        Check.said(x, "add 0 1;add 1 99;", "1 2");
        Check.due("of(2, 0)", x.of(2, 0), 1);
        Check.due("of(2, 1)", x.of(2, 1), 99);
        Check.due("far(0, 2)", x.far(0, 2), 100);
        RoadDepots most = Check.star(59, 7);
        Check.said(most, "add 58 9;", "59");
        Check.due("told(4)", most.told(4), 60);
    }

    private static void openAndShutByWords() {
        Check.edge(22, "open v, shut v: answers 1, if it was otherwise, else 0.");
        RoadDepots x = Check.star(60, 7);
        Check.said(x, "shut 59;open 59;open 59;shut 59;shut 59;open 0;", "0 1 0 1 0 1");
        Check.due("of(59, 2)", x.of(59, 2), 0);
        Check.due("of(0, 2)", x.of(0, 2), 1);
        Check.due("told(5)", x.told(5), 1);
    }

    private static void roadByWords() {
        Check.edge(22, "road v n: the ROAD from v (not 0) to its ROOT is of LENGTH n: answers what it was.");
        RoadDepots x = Check.star(60, 7);
        Check.said(x, "road 1 99;road 1 1;road 59 99;", "7 99 7");
        Check.due("far(1, 59)", x.far(1, 59), 100);
        Check.fault(x, "road 0 5;", 5);
        Check.fault(x, "road 00 5;", 5);
        Check.due("of(0, 1)", x.of(0, 1), 0);
    }

    private static void nearByWords() {
        Check.edge(22, "near v: answers NEAREST and, behind @, how FAR; - if none is open.");
        RoadDepots x = Check.row(60, 99);
        Check.said(x, "near 0;near 59;", "- -");
        Check.open(x, 59);
        Check.said(x, "near 0;near 59;", "59@5841 59@0");
        Check.said(x, "open 57;near 58;", "1 57@99");
        Check.said(x, "shut 57;shut 59;near 0;", "1 1 -");
    }

    private static void farByWords() {
        Check.edge(22, "far u v: how FAR.");
        RoadDepots x = Check.row(60, 99);
        Check.said(x, "far 0 0;far 0 59;far 59 0;far 59 59;far 58 59;", "0 5841 5841 0 99");
    }

    private static void wayByWords() {
        Check.edge(22, "way u v: the VILLAGES on the way, both too, with > between.");
        RoadDepots x = Check.star(60, 99);
        Check.said(x, "way 0 0;way 0 59;way 59 0;way 1 59;way 59 59;", "0 0>59 59>0 1>0>59 59");
    }

    private static void withinByWords() {
        Check.edge(22, "within v n: how many open DEPOTS are n FAR or less.");
        RoadDepots x = Check.row(4, 33);
        Check.said(x, "within 0 99;", "0");
        Check.open(x, 0, 1, 2, 3);
        Check.said(x, "within 0 32;within 0 33;within 0 66;within 1 33;", "1 2 3 3");
        Check.edge(22, "within: n 0 .. 99.");
        Check.said(x, "within 0 0;within 0 00;within 0 98;within 0 99;", "1 1 3 4");
        Check.fault(x, "within 0 100;", 9);
        Check.fault(x, "within 4 0;", 7);
    }

    private static void allByWords() {
        Check.edge(22, "all: the open DEPOTS, rising, with , between; - if none is.");
        RoadDepots x = Check.star(60, 7);
        Check.said(x, "all;", "-");
        Check.said(x, "open 59;all;open 7;open 10;open 0;all;", "1 59 1 1 1 0,7,10,59");
        Check.said(x, "shut 0;shut 59;shut 10;all;shut 7;all;", "1 1 1 7 1 -");
    }

    private static void sumByWords() {
        Check.edge(22, "sum v: how FAR all open ones are together.");
        RoadDepots x = Check.row(60, 99);
        Check.said(x, "sum 0;", "0");
        for (int v = 0; v < 60; v++) {
            x.depot(v, 1);
        }
        Check.said(x, "sum 0;sum 59;sum 30;", "175230 175230 89100");
    }

    private static void firstFault() {
        Check.edge(22, "FAULT: the place of the first byte of the first word, number, sign that can not stand there");
        RoadDepots x = new RoadDepots();
        Check.fault(x, "open 1;open 2;", 5);
        Check.fault(x, "all; open 0; open 22; bad;", 18);
        Check.fault(x, "far 1 1;", 4);
        Check.fault(x, "far 0 1;", 6);
        Check.fault(x, "road 0 0;", 5);
        Check.fault(x, "add 0 0", 6);
        Check.fault(x, "sum 9", 4);
        Check.fault(x, "all;  none 1;", 6);
    }

    private static void wordsThatAreNone() {
        Check.edge(22, "a word that is none);");
        RoadDepots x = new RoadDepots();
        String[] none = {
            "al", "alll", "allz", "ball", "bll", "a", "opens 0", "ope 0", "ad 0 1", "adds 0 1", "wayfar 0 0", "z", "withi 0 0",
        };
        for (String word : none) {
            Check.fault(x, word + ";", 0);
            Check.fault(x, "all;" + word + ";", 4);
        }
        Check.fault(x, "al", 0);
        Check.fault(x, "All;", 0);
    }

    private static void signsThatAreNone() {
        Check.edge(22, "sign that can not stand there");
        for (int c : new int[] {0, 9, 10, 31, 33, 44, 45, 47, 58, 64, 91, 96, 123, 127}) {
            RoadDepots x = new RoadDepots();
            Check.fault(x, (char) c + "all;", 0);
            Check.fault(x, "all" + (char) c + ";", 3);
            Check.fault(x, "sum" + (char) c + ";", 3);
            Check.fault(x, "sum 0" + (char) c + ";", 5);
        }
        Check.fault(new RoadDepots(), "far 0 -1;", 6);
    }

    private static void threeFigures() {
        Check.edge(22, "(a number of three figures or more");
        RoadDepots x = Check.star(3, 7);
        Check.fault(x, "sum 001;", 4);
        Check.fault(x, "sum 100;", 4);
        Check.fault(x, "far 1 000;", 6);
        Check.fault(x, "add 0 007;", 6);
        Check.fault(x, "road 1 099;", 7);
        Check.fault(x, "within 0 000;", 9);
        // By 32 bits these would be 1, and by 64 bits 1 again.
        Check.fault(x, "sum 4294967297;", 4);
        Check.fault(x, "sum 18446744073709551617;", 4);
        Check.fault(x, "sum " + "0".repeat(115) + "1", 4);
    }

    private static void villagesThatAreNone() {
        Check.edge(22, "one that is not as told");
        RoadDepots x = Check.star(3, 7);
        Check.said(x, "open 2;shut 2;near 2;far 2 2;way 2 2;sum 2;road 2 7;within 2 9;", "1 1 - 0 2 0 7 0");
        for (String word : new String[] {"open", "shut", "near", "sum "}) {
            Check.fault(x, word + " 3;", word.length() + 1);
            Check.fault(x, word + " 99;", word.length() + 1);
        }
        Check.fault(x, "far 3 0;", 4);
        Check.fault(x, "far 0 3;", 6);
        Check.fault(x, "way 3 0;", 4);
        Check.fault(x, "way 0 3;", 6);
        Check.fault(x, "within 3 0;", 7);
        Check.fault(x, "road 3 7;", 5);
        Check.fault(x, "add 3 7;", 4);
    }

    private static void villagesByThen() {
        Check.edge(22, "by the VILLAGES that are there by then");
        RoadDepots x = new RoadDepots();
        Check.fault(x, "open 1;add 0 5;", 5);
        Check.fault(x, "add 1 5;", 4);
        Check.fault(x, "add 0 5;add 2 5;", 12);
        Check.fault(x, "add 0 5;road 2 5;", 13);
        Check.said(x, "add 0 5;open 1;road 1 6;add 1 5;far 0 2;", "1 1 5 2 11");
        Check.fault(x, "add 0 5;sum 3;sum 4;", 18);
        Check.due("told(4)", x.told(4), 3);
        x.anew();
        Check.fault(x, "sum 1;", 4);
    }

    private static void lengths() {
        Check.edge(22, "a LENGTH not 1 .. 99");
        RoadDepots x = Check.star(2, 7);
        Check.said(x, "add 0 1;add 0 01;add 0 99;road 1 1;road 1 99;", "2 3 4 7 1");
        Check.fault(x, "add 0 0;", 6);
        Check.fault(x, "add 0 00;", 6);
        Check.fault(x, "add 0 100;", 6);
        Check.fault(x, "road 1 0;", 7);
        Check.fault(x, "road 1 00;", 7);
        Check.fault(x, "road 1 100;", 7);
    }

    private static void addOfSixty() {
        Check.edge(22, "an add when there are 60 (at the word)");
        RoadDepots x = Check.star(59, 7);
        Check.fault(x, "add 0 5; add 0 5;", 9);
        Check.fault(x, "add 0 5;add", 8);
        Check.due("told(4)", x.told(4), 59);
        Check.said(x, "add 0 5;sum 59;", "59 0");
        Check.fault(x, "add 0 5;", 0);
        Check.fault(x, "add 99 0;", 0);
        Check.fault(x, "all;adds 0 5;", 4);
        Check.due("told(2)", x.told(2), 0);
        Check.said(x, "all;", "-");
    }

    private static void endsTooEarly() {
        Check.edge(22, "the TEXT's length, if it ends too early");
        RoadDepots x = Check.star(3, 7);
        String[] early = {"all", "all ", "open", "open ", "open 0", "open 0 ", "far", "far 0", "far 0 0", "add 0 5", "all;sum 1", " "};
        for (String text : early) {
            Check.fault(x, text, text.length());
        }
        RoadDepots full = new RoadDepots();
        Check.fault(full, "all;".repeat(29) + "sum0", 120);
        Check.fault(full, " ".repeat(120), 120);
    }

    private static void emptyText() {
        Check.edge(22, "(an empty one, too).");
        RoadDepots x = new RoadDepots();
        Check.due("says() of a new object", x.says(), -10);
        Check.said(x, "all;", "-");
        Check.fault(x, "", 0);
        Check.dueText("the answer", Check.line(x), "-");
    }

    private static void nothingIsDoneByAFault() {
        Check.edge(22, "If there is a FAULT, nothing is done at all;");
        RoadDepots x = Check.star(3, 7);
        Check.open(x, 1);
        Check.said(x, "near 2;", "1@14");
        Check.fault(x, "add 0 5;open 0;shut 1;road 1 9;open 2;all;add", 45);
        Check.due("told(4)", x.told(4), 3);
        Check.due("told(5)", x.told(5), 1);
        Check.due("of(0, 2)", x.of(0, 2), 0);
        Check.due("of(1, 2)", x.of(1, 2), 1);
        Check.due("far(0, 1)", x.far(0, 1), 7);
        Check.dueText("the answer", Check.line(x), "1@14");
    }

    private static void nothingCountsByAFault() {
        Check.edge(22, "By a FAULT all stays, nothing counts.");
        RoadDepots x = Check.star(60, 7);
        Check.fault(x, "add 0 5;", 0);
        Check.fault(x, "sum 60;", 4);
        Check.fault(x, "none;", 0);
        for (int what = 0; what < 3; what++) {
            Check.due("told(" + what + ")", x.told(what), 0);
        }
        Check.due("told(3), the text stays", x.told(3), 5);
        Check.due("says() again", x.says(), -10);
        x.clear();
        Check.type(x, "all");
        Check.due("says() too early", x.says(), -13);
        x.type(';');
        Check.due("says() of the same text, gone on", x.says(), 1);
    }

    private static void sentencesOneByOne() {
        Check.edge(22, "else SENTENCES are done one by one.");
        RoadDepots x = new RoadDepots();
        Check.said(x, "near 0;open 0;near 0;add 0 9;near 1;road 1 3;near 1;shut 0;all;", "- 1 0@0 1 0@9 9 0@3 1 -");
        Check.due("says() again", x.says(), 9);
        Check.dueText("the same text again", Check.line(x), "- 1 0@0 2 0@3 3 0@3 1 -");
    }

    private static void howManyAreDone() {
        Check.edge(22, "SENTENCES are done: how many; THE ANSWER is theirs.");
        RoadDepots x = new RoadDepots();
        Check.said(x, "all;".repeat(30), "- ".repeat(29) + "-");
        Check.said(x, "all;", "-");
        Check.due("told(3), the text stays", x.told(3), 4);
        Check.due("told(6)", x.told(6), 1);
    }

    private static void faultIsTaken() {
        Check.edge(22, "-10 less the FAULT (THE ANSWER stays).");
        RoadDepots x = new RoadDepots();
        Check.said(x, "all;sum 0;", "- 0");
        Check.fault(x, "none", 0);
        Check.fault(x, "all;".repeat(29) + "sum!", 119);
        Check.fault(x, "all;".repeat(29) + "sum ", 120);
        Check.dueText("the answer", Check.line(x), "- 0");
    }

    private static void answersWithBlanks() {
        Check.edge(22, "THE ANSWER: all answers, numbers as figures, with a blank between");
        RoadDepots x = Check.row(60, 99);
        Check.said(x, "far 0 0;", "0");
        Check.said(x, "far 0 0;far 0 1;far 0 2;far 0 11;", "0 99 198 1089");
        x.road(1, 9);
        x.road(2, 1);
        Check.said(x, "far 0 1;far 0 2;far 1 2;", "9 10 1");
        x.road(3, 90);
        Check.said(x, "far 0 3;near 3;all;way 9 11;", "100 - - 9>10>11");
    }

    private static void answerIsEmptyAtFirst() {
        Check.edge(23, "(of as many SENTENCES as are done; empty at first).");
        RoadDepots x = new RoadDepots();
        Check.due("answer(-1)", x.answer(-1), 0);
        Check.due("answer(0)", x.answer(0), -5);
        x.says();
        Check.due("answer(-1) behind a fault", x.answer(-1), 0);
        Check.said(x, "all;sum 0;", "- 0");
        Check.said(x, "all;", "-");
        Check.due("answer(1), what was there before is gone", x.answer(1), -5);
    }

    /** The way from 0 to k has 19 signs for k = 9 and 3 more for each village behind it: 169 for k = 59. */
    private static void answerOf400() {
        Check.edge(22, "It is 400 signs at most, the rest is left out.");
        RoadDepots x = Check.row(60, 99);
        Check.due("says()", Check.say(x, "way 0 59;way 0 59;way 0 22;all;"), 4);
        Check.due("answer(-1)", x.answer(-1), 400);
        Check.due("answer(397)", x.answer(397), '2');
        Check.due("answer(398)", x.answer(398), ' ');
        Check.due("answer(399)", x.answer(399), '-');
        Check.due("answer(400)", x.answer(400), -5);
        Check.due("says()", Check.say(x, "way 0 59;way 0 59;far 0 2;way 0 21;"), 4);
        Check.due("answer(-1) of 399 signs", x.answer(-1), 399);
        Check.due("answer(398)", x.answer(398), '1');
        Check.due("answer(399)", x.answer(399), -5);
    }

    private static void answerOf401() {
        Check.edge(22, "the rest is left out.");
        RoadDepots x = Check.row(60, 99);
        Check.due("says()", Check.say(x, "way 0 59;way 0 59;way 0 22;road 1 5;open 7;"), 5);
        Check.due("answer(-1)", x.answer(-1), 400);
        Check.due("answer(399), half a number", x.answer(399), '9');
        Check.due("answer(400)", x.answer(400), -5);
        Check.due("told(6)", x.told(6), 400);
        Check.due("of(7, 2), what is left out is done", x.of(7, 2), 1);
        Check.due("of(1, 1), what is cut is done", x.of(1, 1), 5);
        Check.said(x, "all;", "7");
    }

    private static void answerCutAtABlank() {
        Check.edge(22, "400 signs at most");
        RoadDepots x = Check.row(60, 99);
        Check.due("says()", Check.say(x, "way 0 59;way 0 59;far 0 2;way 0 21;all;"), 5);
        Check.due("answer(-1)", x.answer(-1), 400);
        Check.due("answer(399)", x.answer(399), ' ');
        Check.due("answer(400)", x.answer(400), -5);
    }

    private static void answerKth() {
        Check.edge(23, "How many signs THE ANSWER has (k = NONE), the k-th as a byte;");
        RoadDepots x = Check.row(3, 5);
        Check.open(x, 0, 1);
        Check.say(x, "all;near 2;way 0 1;");
        String due = "0,1 1@5 0>1";
        Check.due("answer(-1)", x.answer(-1), due.length());
        for (int k = 0; k < due.length(); k++) {
            Check.due("answer(" + k + ")", x.answer(k), due.charAt(k));
        }
    }

    private static void answerNotSoMany() {
        Check.edge(23, "-5: not so many.");
        RoadDepots x = new RoadDepots();
        Check.due("answer(0) of none", x.answer(0), -5);
        Check.say(x, "all;");
        Check.due("answer(0)", x.answer(0), '-');
        Check.due("answer(1)", x.answer(1), -5);
        Check.due("answer(400)", x.answer(400), -5);
        Check.due("answer(most)", x.answer(Integer.MAX_VALUE), -5);
        Check.due("told(0), it is not refused", x.told(0), 0);
    }

    private static void answerIsBad() {
        Check.edge(23, "BAD: -10.");
        RoadDepots x = new RoadDepots();
        Check.due("answer(-2)", x.answer(-2), -10);
        Check.due("answer(least)", x.answer(Integer.MIN_VALUE), -10);
        Check.due("told(0)", x.told(0), 2);
    }

    private static void toldRefusals() {
        Check.edge(24, "How often refused: BAD (0), NO (1), FULL (2);");
        RoadDepots x = Check.star(60, 7);
        x.add(0, 0);
        x.add(0, 1);
        x.add(0, 1);
        x.way(60, 0, 0);
        x.answer(-2);
        x.type(128);
        Check.due("told(0)", x.told(0), 4);
        Check.due("told(2)", x.told(2), 2);
        Check.edge(24, "(NO -3 is told by none).");
        Check.due("told(1)", x.told(1), 0);
        x.anew();
        x.draw(1, 1);
        Check.due("told(0) behind anew and draw", x.told(0), 4);
        Check.due("told(2) behind anew and draw", x.told(2), 2);
    }

    private static void toldSizes() {
        Check.edge(24, "bytes of THE TEXT (3), VILLAGES (4), open DEPOTS (5), signs of THE ANSWER (6).");
        RoadDepots x = Check.star(60, 7);
        Check.due("told(3), empty", x.told(3), 0);
        Check.due("told(4), full", x.told(4), 60);
        Check.due("told(5), none", x.told(5), 0);
        Check.due("told(6), empty", x.told(6), 0);
        for (int v = 0; v < 60; v++) {
            x.depot(v, 1);
        }
        Check.due("told(5), all", x.told(5), 60);
        Check.say(x, "all;all;all;" + "sum0;".repeat(21) + "all");
        Check.due("told(3), full", x.told(3), 120);
        x.type(';');
        x.clear();
        Check.say(x, "all;all;all;");
        Check.due("told(3)", x.told(3), 12);
        Check.due("told(6), full", x.told(6), 400);
    }

    private static void toldIsBad() {
        Check.edge(24, "BAD.");
        RoadDepots x = new RoadDepots();
        Check.due("told(-1)", x.told(-1), -2);
        Check.due("told(7)", x.told(7), -2);
        Check.due("told(0)", x.told(0), 2);
    }

    private static void toldOf512Calls() {
        Check.edge(24, "An object is used for at most 512 calls after it has been made");
        RoadDepots bad = new RoadDepots();
        RoadDepots full = new RoadDepots();
        for (int call = 1; call < 512; call++) {
            bad.told(7);
            full.type(97);
        }
        Check.due("told(0) as call 512", bad.told(0), 511);
        Check.due("told(2) as call 512", full.told(2), 391);
    }

    private static void digestOfANewObject() {
        Check.edge(25, "h = 1997; then h = 31 h + v for each v: told(0) to told(6);");
        RoadDepots x = new RoadDepots();
        isDigest(x, new int[] {0, 0, 0, 0, 1, 0, 0, -1, 0, 0}, "");
        x.told(7);
        x.type(97);
        x.depot(0, 1);
        isDigest(x, new int[] {1, 0, 0, 1, 1, 1, 0, -1, 0, 1}, "");
        Check.type(x, "a".repeat(120));
        isDigest(x, new int[] {1, 0, 1, 120, 1, 1, 0, -1, 0, 1}, "");
    }

    private static void digestOfVillages() {
        Check.edge(25, "of VILLAGES of(0) to of(2); signs of THE ANSWER.");
        RoadDepots x = Check.row(3, 5);
        Check.open(x, 1);
        isDigest(x, new int[] {0, 0, 0, 0, 3, 1, 0, -1, 0, 0, 0, 5, 1, 1, 5, 0}, "");
        Check.say(x, "near 2;");
        isDigest(x, new int[] {0, 0, 0, 7, 3, 1, 3, -1, 0, 0, 0, 5, 1, 1, 5, 0}, "1@5");
        x.anew();
        isDigest(x, new int[] {0, 0, 0, 7, 1, 0, 3, -1, 0, 0}, "1@5");
    }

    private static void digestWrapsAround() {
        Check.edge(25, "h = 31 h + v");
        RoadDepots x = Check.row(60, 99);
        Check.say(x, "way 0 59;way 0 59;way 0 59;");
        int[] values = new int[7 + 3 * 60];
        values[3] = 27;
        values[4] = 60;
        values[6] = 400;
        values[7] = -1;
        StringBuilder way = new StringBuilder("0");
        for (int v = 1; v < 60; v++) {
            values[7 + 3 * v] = v - 1;
            values[8 + 3 * v] = 99;
            way.append('>').append(v);
        }
        isDigest(x, values, (way + " " + way + " " + way).substring(0, 400));
    }

    /** By numbers that can not run over; the last 64 bits of them are the digest. */
    private static void isDigest(RoadDepots x, int[] values, String answer) {
        BigInteger h = BigInteger.valueOf(1997);
        for (int v : values) {
            h = h.multiply(BigInteger.valueOf(31)).add(BigInteger.valueOf(v));
        }
        for (char sign : answer.toCharArray()) {
            h = h.multiply(BigInteger.valueOf(31)).add(BigInteger.valueOf(sign));
        }
        Check.due("digest()", x.digest(), h.longValue());
        Check.due("digest() again", x.digest(), h.longValue());
    }
}
