/** Promise by promise: ordinary calls, the edges that the document names, wrong arguments. */
public final class PromisesTest {
    private static final int NONE = TwoSlips.NONE;
    private static final int MIN = Integer.MIN_VALUE;
    private static final int MAX = Integer.MAX_VALUE;

    // Worlds 1 to 4: 0 (1,1) 1 (1,2) 2 (1,3) 3 (1,4) 4 (2,2) 5 (2,3) 6 (2,4) 7 (3,3) 8 (3,4) 9 (4,4).
    private static final String FOUR = "numbers 1 to 4;speaker sum;speaker product;";
    private static final String SHY = FOUR + "say 1 not knows 1;say 0 knows 0;";
    private static final String SURE = FOUR + "say 0 sees 1(knows 1) and even;say 1 was 0(knows 0);say 0 above 5;";
    private static final String NINE = "numbers 1 to 9;speaker sum;speaker product;";

    private PromisesTest() {
    }

    private static void newObject() {
        Due.is("1 NONE", -1, () -> TwoSlips.NONE);
        TwoSlips x = new TwoSlips();
        int[] counts = {0, 2, 20, 120, 0, 0, 0, 190, 0};
        for (int what = 0; what < counts.length; what++) {
            int asked = what;
            Due.is("1 count(" + what + ")", counts[what], () -> x.count(asked));
        }
        Due.is("1 fault(0)", 0, () -> x.fault(0));
        Due.is("1 fault(1)", NONE, () -> x.fault(1));
        for (int tray = 0; tray < 4; tray++) {
            int asked = tray;
            Due.illegalState("1 pour(" + tray + ")", () -> x.pour(asked));
        }
        for (int i = 0; i < 3; i++) {
            int asked = i;
            Due.illegalState("1 restore(" + i + ")", () -> Due.done(() -> x.restore(asked)));
        }
        Due.is("1 left(0)", 190, () -> x.left(0));
        Due.is("1 talk(0)", 0, () -> x.talk(0));
    }

    private static void feed() {
        TwoSlips x = new TwoSlips();
        for (int n = 20; n <= 900; n += 20) {
            Due.is("2 feed", n, () -> x.feed(0x3b3b3b3b, 0, 0, 0, -1));
        }
        Due.is("2 feed beyond 900", NONE, () -> x.feed(1, 2, 3, 4, 5));
        Due.is("2 bytes", 900, () -> x.count(8));
        Due.is("2 first byte", -12, () -> x.talk(1));
        Due.is("2 tape is empty", 0, () -> x.count(8));
        // unlike;unlike;unlike as ints, the highest byte first
        Due.is("2 feed", 20, () -> x.feed(0x756e6c69, 0x6b653b75, 0x6e6c696b, 0x653b756e, 0x6c696b65));
        Due.is("2 feed", 40, () -> x.feed(0x3b202020, 0x20202020, 0x20202020, 0x20202020, 0x20202020));
        Due.is("2 all bytes in order", 3, () -> x.talk(21));
    }

    private static void talk() {
        TwoSlips x = new TwoSlips();
        Due.illegal("3 talk(1) of nothing", () -> x.talk(1));
        Due.illegal("3 talk(-1)", () -> x.talk(-1));
        Due.is("3 blanks alone", 0, () -> Due.tell(x, " \n  \n"));
        Due.is("3 lines", 4, () -> Due.tell(x, "most 7;unlike;numbers 3 to 9;most 12;"));
        Due.is("3 later numbers", 3, () -> x.count(1));
        Due.is("3 later most", 12, () -> x.count(3));
        Due.is("3 unlike", 1, () -> x.count(4));
        Due.feed(x, "unlike;unlike;");
        Due.illegal("3 talk(21) of 20", () -> x.talk(21));
        Due.illegal("3 talk(MIN)", () -> x.talk(MIN));
        Due.illegal("3 talk(MAX)", () -> x.talk(MAX));
        Due.is("3 the tape stays with a throw", 20, () -> x.count(8));
        Due.is("3 a part of the tape", 1, () -> x.talk(7));
        Due.is("3 numbers as without a line", 2, () -> x.count(1));
        Due.is("3 most as without a line", 120, () -> x.count(3));
        Due.is("3 the tape is empty", 0, () -> x.count(8));
        Due.is("3 a fault", -12, () -> Due.tell(x, "most 9;numbers;"));
        Due.is("3 all stays with a fault", 120, () -> x.count(3));
        Due.is("3 lines stay with a fault", 1, () -> x.count(0));
        Due.is("3 the tape is empty behind a fault", 0, () -> x.count(8));
        Due.is("3 numbers 60 to 60, sum above most", 2, () -> Due.tell(x, "numbers 60 to 60;most 119;"));
        Due.is("3 no world", 0, () -> x.count(7));
        Due.is("3 empty text", 0, () -> Due.tell(x, ""));
        Due.is("3 as without a talk", 190, () -> x.count(7));
        Due.is("3 deep but not too deep", 2,
            () -> Due.tell(x, "speaker odd;say 0 not(not(not(not(even) or even) and even) or not not not not not not even);"));
        Due.is("3 words and numbers without blanks", 3, () -> Due.tell(x, "numbers1to4;speaker sum;say0sees0(knows0)and above007;"));
    }

    private static void faultIs(String text, int kind, int place) {
        TwoSlips x = new TwoSlips();
        Due.is("4 talk of " + text, kind == 0 ? "fine" : -10 - kind, () -> {
            int answer = Due.tell(x, text);
            return answer >= 0 ? "fine" : answer;
        });
        Due.is("4 fault(0) of " + text, kind, () -> x.fault(0));
        Due.is("4 fault(1) of " + text, kind == 0 ? NONE : place, () -> x.fault(1));
    }

    private static void fault() {
        String one = "speaker sum;say 0 ";
        faultIs("", 0, NONE);
        faultIs("$", 1, 0);
        faultIs("unlike\t;", 1, 6);
        faultIs("unlike;" + (char) 225, 1, 7);
        faultIs("Unlike;", 1, 0);
        faultIs("a;", 2, 0);
        faultIs("z;", 2, 0);
        faultIs("0;", 2, 0);
        faultIs("9;", 2, 0);
        for (char c : new char[] {'a' - 1, 'z' + 1, '0' - 1, '9' + 1, 9, 11, 13, 31, 33, '*', '<', 0, 127, 128, 255}) {
            faultIs("unlike " + c, 1, 7);
        }
        faultIs("numbers 0001 to 4;", 1, 8);
        faultIs("most 1 2000;", 3, 5);
        faultIs("most 2 2000;", 1, 7);
        faultIs("2000;", 1, 0);
        faultIs("unlike", 2, 6);
        faultIs("unlike  ", 2, 8);
        faultIs(";", 2, 0);
        faultIs("unlike;;", 2, 7);
        faultIs("unlikely;", 2, 0);
        faultIs("numbers 2 20;", 2, 10);
        faultIs("numbers to 20;", 2, 8);
        faultIs("most;", 2, 4);
        faultIs("speaker liar sum;", 2, 8);
        faultIs("speaker sum liar liar;", 2, 17);
        faultIs("speaker sum product;", 2, 12);
        faultIs(one + "even odd;", 2, 23);
        faultIs(one + "even not even;", 2, 23);
        faultIs(one + "not;", 2, 21);
        faultIs(one + "();", 2, 19);
        faultIs(one + "(even;", 2, 23);
        faultIs(one + "even);", 2, 22);
        faultIs(one + "even and;", 2, 26);
        faultIs(one + "even or or even;", 2, 26);
        faultIs(one + "knows(0);", 2, 23);
        faultIs(one + "was (even);", 2, 22);
        faultIs(one + "was 0 even;", 2, 24);
        faultIs(one + ";", 2, 18);
        faultIs("numbers 61 to 62;", 3, 8);
        faultIs("numbers 1 to 61;", 3, 13);
        faultIs("numbers 9 to 8;", 3, 13);
        faultIs("numbers 9 to 9;", 0, NONE);
        faultIs("most 121;", 3, 5);
        faultIs("most 120;most 2;", 0, NONE);
        faultIs("say 0 even;speaker sum;", 3, 4);
        faultIs("speaker sum;say 1 even;speaker sum;", 3, 16);
        faultIs(one + "sees 1(even);speaker sum;", 3, 23);
        faultIs(one + "was 21(even);", 3, 22);
        faultIs(one + "was 20(even);", 0, NONE);
        faultIs(one + "above 121;", 3, 24);
        faultIs(one + "above 120 or above 0;", 0, NONE);
        faultIs("speaker sum;".repeat(6), 0, NONE);
        faultIs("speaker sum;".repeat(6) + "speaker sun;", 4, 72);
        faultIs("speaker sum;" + "say 0 even;".repeat(20), 0, NONE);
        faultIs("speaker sum;" + "say 0 even;".repeat(20) + "say 9", 4, 232);
        faultIs(one + "((((((((even))))))));", 0, NONE);
        faultIs(one + "(((((((((even)))))))));", 5, 26);
        faultIs(one + "((((((((not even))))))));", 5, 26);
        faultIs(one + "not not not not not not not sees 0(even);", 0, NONE);
        faultIs(one + "not not not not not not not not sees 0(even);", 5, 56);
        faultIs(one + "not not not not not not not not was 3 even;", 2, 56);
        faultIs(one + "not not not not even and not not not not not not not not even;", 0, NONE);
        faultIs(one + "even ((((((((((even;", 2, 23);
        TwoSlips part = new TwoSlips();
        Due.feed(part, "most 119;");
        Due.is("4 a number cut by n", -12, () -> part.talk(7));
        Due.is("4 the end is n", 7, () -> part.fault(1));
        Due.feed(part, "most 119;");
        Due.is("4 a number cut by n", -13, () -> part.talk(6));
        Due.feed(part, "most 1190;");
        Due.is("4 four digits cut by n", -12, () -> part.talk(8));
        Due.feed(part, "unlikely;");
        Due.is("4 a word cut by n", -12, () -> part.talk(6));
        Due.is("4 the end is n", 6, () -> part.fault(1));
        Due.feed(part, "unlike;;");
        Due.is("4 lines cut by n", 1, () -> part.talk(7));
        TwoSlips x = new TwoSlips();
        Due.tell(x, "unlike");
        Due.illegal("4 talk throws", () -> x.talk(9));
        Due.is("4 a throw leaves the fault", 2, () -> x.fault(0));
        Due.is("4 fault(2)", NONE, () -> x.fault(2));
        Due.is("4 fault(-1)", NONE, () -> x.fault(-1));
        Due.tell(x, "unlike;");
        Due.is("4 the latest talk", 0, () -> x.fault(0));
        Due.is("4 the latest talk", NONE, () -> x.fault(1));
    }

    private static void worlds() {
        TwoSlips x = Due.told("numbers 3 to 6;unlike;most 10;");
        int[][] pairs = {{3, 4}, {3, 5}, {3, 6}, {4, 5}, {4, 6}};
        for (int w = 0; w < pairs.length; w++) {
            int asked = w;
            Due.is("5 world(" + w + ", 0)", pairs[w][0], () -> x.world(asked, 0));
            Due.is("5 world(" + w + ", 1)", pairs[w][1], () -> x.world(asked, 1));
            Due.is("6 pair", w, () -> x.pair(pairs[asked][0], pairs[asked][1]));
            Due.is("6 pair the other way round", w, () -> x.pair(pairs[asked][1], pairs[asked][0]));
        }
        Due.noSuch("5 world(5, 0)", () -> x.world(5, 0));
        Due.noSuch("5 world(-1, 7)", () -> x.world(-1, 7));
        Due.noSuch("5 world(MAX, 1)", () -> x.world(MAX, 1));
        Due.illegal("5 world(0, 2)", () -> x.world(0, 2));
        Due.illegal("5 world(0, -1)", () -> x.world(0, -1));
        int[][] none = {{3, 3}, {5, 6}, {2, 4}, {3, 7}, {MIN, 3}, {MAX, MAX}, {MAX, MIN}, {0, 0}, {-3, 4}};
        for (int[] pair : none) {
            Due.is("6 pair(" + pair[0] + ", " + pair[1] + ")", NONE, () -> x.pair(pair[0], pair[1]));
        }
    }

    private static void speakers() {
        TwoSlips x = Due.told("numbers 3 to 8;speaker sum;speaker product liar;speaker greater deaf;speaker less liar deaf;"
            + "speaker difference;speaker squares;say 1 even;say 4 same;say 1 not even;");
        int w = x.pair(8, 3);
        int[] slips = {11, 24, 8, 3, 5, 73};
        for (int s = 0; s < slips.length; s++) {
            int asked = s;
            Due.is("7 told(" + s + ")", slips[s], () -> x.told(asked, w));
            Due.is("8 sight of " + s, s, () -> x.speaker(asked, 0));
            Due.is("8 liar " + s, s == 1 || s == 3 ? 1 : 0, () -> x.speaker(asked, 1));
            Due.is("8 deaf " + s, s == 2 || s == 3 ? 1 : 0, () -> x.speaker(asked, 2));
            Due.is("8 turns of " + s, s == 1 ? 2 : s == 4 ? 1 : 0, () -> x.speaker(asked, 3));
        }
        TwoSlips y = Due.told("numbers 3 to 8;speaker odd;speaker digit;speaker nothing;");
        Due.is("7 odd", 1, () -> y.told(0, w));
        Due.is("7 digit", 1, () -> y.told(1, w));
        Due.is("7 nothing", 0, () -> y.told(2, w));
        Due.is("8 odd", 6, () -> y.speaker(0, 0));
        Due.is("8 nothing", 8, () -> y.speaker(2, 0));
        Due.noSuch("7 told(6, 0)", () -> x.told(6, 0));
        Due.noSuch("7 told(-1, 0)", () -> x.told(-1, 0));
        Due.noSuch("7 told(0, 21)", () -> x.told(0, 21));
        Due.noSuch("8 speaker(6, 9)", () -> x.speaker(6, 9));
        Due.illegal("8 speaker(5, 4)", () -> x.speaker(5, 4));
        Due.illegal("8 speaker(5, -1)", () -> x.speaker(5, -1));
        Due.is("9 turn(0)", 1, () -> x.turn(0));
        Due.is("9 turn(1)", 4, () -> x.turn(1));
        Due.noSuch("9 turn(3)", () -> x.turn(3));
        Due.noSuch("9 turn(-1)", () -> x.turn(-1));
    }

    private static void left() {
        TwoSlips x = Due.told(SHY);
        Due.is("10 left(0)", 10, () -> x.left(0));
        Due.is("10 left(1)", 2, () -> x.left(1));
        Due.is("10 left(2)", 2, () -> x.left(2));
        Due.illegal("10 left(3)", () -> x.left(3));
        Due.illegal("10 left(-1)", () -> x.left(-1));
        Due.is("11 leftAt(0, 9)", 9, () -> x.leftAt(0, 9));
        Due.is("11 leftAt(1, 0)", 3, () -> x.leftAt(1, 0));
        Due.is("11 leftAt(1, 1)", 4, () -> x.leftAt(1, 1));
        Due.is("11 leftAt(1, 2)", NONE, () -> x.leftAt(1, 2));
        Due.is("11 leftAt(1, -1)", NONE, () -> x.leftAt(1, -1));
        Due.is("11 leftAt(1, MIN)", NONE, () -> x.leftAt(1, MIN));
        Due.illegal("11 leftAt(3, 0)", () -> x.leftAt(3, 0));
        Due.illegal("11 leftAt(-1, 0)", () -> x.leftAt(-1, 0));
        Due.is("12 isLeft(0, 2)", true, () -> x.isLeft(0, 2));
        Due.is("12 isLeft(1, 2)", false, () -> x.isLeft(1, 2));
        Due.is("12 isLeft(2, 4)", true, () -> x.isLeft(2, 4));
        Due.noSuch("12 isLeft(9, 10)", () -> x.isLeft(9, 10));
        Due.illegal("12 isLeft(3, 0)", () -> x.isLeft(3, 0));
        TwoSlips twenty = Due.told("numbers 1 to 20;speaker sum;say 0 above 3;say 0 above 4;say 0 above 5;say 0 above 6;say 0 above 7;say 0 above 8;"
            + "say 0 above 9;say 0 above 10;say 0 above 11;say 0 above 12;say 0 above 13;say 0 above 14;say 0 above 15;say 0 above 16;"
            + "say 0 above 17;say 0 above 18;say 0 above 36;say 0 above 37;say 0 was 20(above 38);say 0 was 18(above 39);");
        Due.is("10 behind 19 of twenty turns", 2, () -> twenty.left(19));
        Due.is("10 behind twenty turns", 1, () -> twenty.left(20));
        Due.illegal("10 behind 21 turns", () -> twenty.left(21));
        Due.is("11 behind twenty turns", 209, () -> twenty.leftAt(20, 0));
        Due.is("13 behind twenty turns", 209, () -> twenty.only());
        Due.is("16 the last turn of twenty", 19, () -> twenty.judge(208));
        Due.is("18 behind twenty turns", 1, () -> twenty.knowing(0, 20));
        Due.is("13 several", NONE, () -> x.only());
        Due.is("13 one", 9, () -> Due.told(SURE).only());
        Due.is("13 none", NONE, () -> Due.told("numbers 2 to 2;unlike;").only());
        Due.is("13 one without turns", 0, () -> Due.told("numbers 7 to 7;").only());
    }

    private static void sayings() {
        TwoSlips x = Due.told(SURE);
        Due.is("14 so(0, 2)", true, () -> x.so(0, 2));
        Due.is("14 so(0, 3)", false, () -> x.so(0, 3));
        Due.is("14 so in a struck world", false, () -> x.so(2, 2));
        Due.is("14 was 0", false, () -> x.so(1, 6));
        Due.is("14 was 0", true, () -> x.so(1, 9));
        Due.is("15 may(0, 2)", false, () -> x.may(0, 2));
        Due.is("15 may(0, 9)", true, () -> x.may(0, 9));
        Due.is("15 may in a struck world of which nothing like is left", true, () -> x.may(1, 2));
        Due.noSuch("14 so(3, 0)", () -> x.so(3, 0));
        Due.noSuch("14 so(-1, 0)", () -> x.so(-1, 0));
        Due.noSuch("14 so(0, 10)", () -> x.so(0, 10));
        Due.noSuch("15 may(3, 0)", () -> x.may(3, 0));
        Due.noSuch("15 may(0, -1)", () -> x.may(0, -1));
        Due.is("16 judge(0)", 2, () -> x.judge(0));
        Due.is("16 judge(6)", 1, () -> x.judge(6));
        Due.is("16 judge(1)", 0, () -> x.judge(1));
        Due.is("16 judge(9)", NONE, () -> x.judge(9));
        Due.noSuch("16 judge(10)", () -> x.judge(10));
        Due.noSuch("16 judge(-1)", () -> x.judge(-1));
        // A liar may say what is not sure to him.
        TwoSlips liar = Due.told("numbers 1 to 4;speaker sum liar;speaker product;say 0 above 4 and not same;");
        Due.is("15 a liar where it is not so", true, () -> liar.may(0, 2));
        Due.is("15 a liar where it is not sure", true, () -> liar.may(0, 6));
        Due.is("15 a liar where it is sure", false, () -> liar.may(0, 5));
        Due.is("10 left by a liar", 7, () -> liar.left(1));
        // The deaf one goes on as at first; the hearing one has news.
        TwoSlips deaf = Due.told("numbers 1 to 4;speaker sum;speaker sum deaf;speaker product;say 2 not knows 2;"
            + "say 0 knows 0 and not knows 1 and sees 0(knows 0) and not sees 1(knows 0);say 1 not knows 1 and not sees 1(knows 0);");
        Due.is("14 the deaf in a saying", true, () -> deaf.so(1, 3));
        Due.is("15 the deaf speaks", true, () -> deaf.may(2, 3));
        Due.is("15 the deaf doesn't hear that it was struck", false, () -> deaf.may(2, 0));
        Due.is("10 left by the deaf", 2, () -> deaf.left(3));
        // Turns that were, but no more than there were.
        TwoSlips was = Due.told(FOUR + "say 0 was 20(not knows 0);say 1 was 1(was 9(knows 1) or even) or was 0(not sees 1(even));");
        Due.is("14 was beyond", true, () -> was.so(0, 3));
        Due.is("14 was in was", true, () -> was.so(1, 2));
    }

    private static void knowledge() {
        TwoSlips x = Due.told(SHY);
        Due.is("17 knows(0, 3, 0)", false, () -> x.knows(0, 3, 0));
        Due.is("17 knows(0, 3, 1)", true, () -> x.knows(0, 3, 1));
        Due.is("17 in a struck world", false, () -> x.knows(0, 2, 1));
        Due.is("17 in a struck world with nothing like it", true, () -> x.knows(0, 9, 1));
        Due.noSuch("17 knows(2, 0, 9)", () -> x.knows(2, 0, 9));
        Due.noSuch("17 knows(0, 10, 9)", () -> x.knows(0, 10, 9));
        Due.illegal("17 knows(0, 0, 3)", () -> x.knows(0, 0, 3));
        Due.is("18 knowing(0, 0)", 4, () -> x.knowing(0, 0));
        Due.is("18 knowing(1, 0)", 8, () -> x.knowing(1, 0));
        Due.is("18 knowing(1, 2)", 0, () -> x.knowing(1, 2));
        Due.noSuch("18 knowing(2, 9)", () -> x.knowing(2, 9));
        Due.illegal("18 knowing(0, -1)", () -> x.knowing(0, -1));
        Due.is("19 heap(0, 2, 0)", 2, () -> x.heap(0, 2, 0));
        Due.is("19 heap of a struck world", 1, () -> x.heap(0, 2, 1));
        Due.is("19 heap(0, 9, 2)", 0, () -> x.heap(0, 9, 2));
        Due.noSuch("19 heap(-1, 0, 9)", () -> x.heap(-1, 0, 9));
        Due.noSuch("19 heap(0, -1, 9)", () -> x.heap(0, -1, 9));
        Due.illegal("19 heap(0, 0, 3)", () -> x.heap(0, 0, 3));
        TwoSlips deaf = Due.told("numbers 1 to 4;speaker sum deaf;speaker product;say 1 not knows 1;");
        Due.is("17 the deaf", false, () -> deaf.knows(0, 3, 1));
        Due.is("18 the deaf", 0, () -> deaf.knowing(0, 1));
        Due.is("19 the deaf", 2, () -> deaf.heap(0, 3, 1));
        Due.illegal("19 the deaf, no such turns", () -> deaf.heap(0, 3, 2));
    }

    private static void strikesAndEnds() {
        TwoSlips x = Due.told(SURE);
        Due.is("20 strikes(0)", 6, () -> x.strikes(0));
        Due.is("20 strikes(1)", 0, () -> x.strikes(1));
        Due.is("20 without turns", 0, () -> Due.told(FOUR).strikes(0));
        Due.is("20 without turns", NONE, () -> Due.told(FOUR).strikes(1));
        Due.is("20 the first of like ones", 1, () -> Due.told(FOUR + "say 0 above 0;say 0 above 2;say 0 above 3;").strikes(1));
        Due.is("20 none strikes", 0, () -> Due.told(FOUR + "say 0 above 0;say 0 above 1;").strikes(1));
        Due.illegal("20 strikes(2)", () -> x.strikes(2));
        Due.illegal("20 strikes(-1)", () -> x.strikes(-1));
        TwoSlips y = Due.told(SHY);
        Due.is("21 ends(1, 4)", 2, () -> y.ends(1, 4));
        Due.is("21 ends(2, 4)", 0, () -> y.ends(2, 4));
        Due.is("21 ends(60, 60)", 0, () -> y.ends(60, 60));
        Due.is("21 without turns", 16, () -> Due.told("unlike;most 9;speaker sum;").ends(1, 60));
        Due.illegal("21 ends(0, 4)", () -> y.ends(0, 4));
        Due.illegal("21 ends(4, 3)", () -> y.ends(4, 3));
        Due.illegal("21 ends(1, 61)", () -> y.ends(1, 61));
        Due.illegal("21 ends(61, 61)", () -> y.ends(61, 61));
        Due.is("21 nothing changes", 4, () -> y.count(2));
        // The sum knows the two least and the two greatest sums, of 1 to 2 all three.
        TwoSlips z = Due.told("numbers 1 to 9;speaker sum;say 0 knows 0 and above 3;");
        Due.is("22 first", 2, () -> z.upTo(0));
        Due.is("22 last", 2, () -> z.upTo(1));
        Due.is("22 none", NONE, () -> Due.told("numbers 1 to 9;speaker sum;say 0 above 120;").upTo(0));
        Due.is("22 none", NONE, () -> Due.told("numbers 1 to 9;speaker sum;say 0 above 120;").upTo(1));
        TwoSlips top = Due.told("numbers 1 to 9;speaker sum;say 0 above 119;");
        Due.is("22 60", 60, () -> top.upTo(0));
        Due.is("22 60", 60, () -> top.upTo(1));
        TwoSlips many = Due.told("numbers 7 to 9;speaker sum;say 0 not above 14;");
        Due.is("22 from the lower one on", 7, () -> many.upTo(0));
        Due.is("22 to 60", 60, () -> many.upTo(1));
        Due.illegal("22 upTo(2)", () -> many.upTo(2));
        Due.illegal("22 upTo(-1)", () -> many.upTo(-1));
    }

    private static void muteTalks() {
        TwoSlips x = Due.told(NINE);
        int w = x.pair(2, 8);
        Due.is("23 rest(1, 0)", 8, () -> x.rest(1, 0));
        Due.is("25 product first: 2 and 8 behind eight", 8, () -> x.longest(1, 0, 0));
        Due.is("25 product first: 2 and 8", w, () -> x.longest(1, 0, 1));
        Due.is("24 product first: 2 and 8", 8, () -> x.when(1, 0, w));
        Due.is("24 sum first", 9, () -> x.when(0, 1, w));
        Due.is("24 at once", 0, () -> x.when(0, 1, 0));
        Due.noSuch("23 rest(2, 2)", () -> x.rest(2, 2));
        Due.noSuch("23 rest(0, -1)", () -> x.rest(0, -1));
        Due.illegal("23 rest(1, 1)", () -> x.rest(1, 1));
        Due.noSuch("24 when(2, 2, 0)", () -> x.when(2, 2, 0));
        Due.noSuch("24 when(0, 0, 45)", () -> x.when(0, 0, 45));
        Due.illegal("24 when(0, 0, 0)", () -> x.when(0, 0, 0));
        Due.noSuch("25 longest(0, 2, 9)", () -> x.longest(0, 2, 9));
        Due.illegal("25 longest(0, 0, 0)", () -> x.longest(0, 0, 0));
        Due.illegal("25 longest(0, 1, 2)", () -> x.longest(0, 1, 2));
        Due.illegal("25 longest(0, 1, -1)", () -> x.longest(0, 1, -1));
        TwoSlips never = Due.told("numbers 1 to 4;speaker nothing;speaker odd;");
        Due.is("23 all rest", 10, () -> never.rest(0, 1));
        Due.is("24 never", NONE, () -> never.when(0, 1, 3));
        Due.is("25 none", NONE, () -> never.longest(0, 1, 0));
        Due.is("25 none", NONE, () -> never.longest(1, 0, 1));
        // One idle turn ends nothing: nothing tells the first speaker, all the second.
        TwoSlips idle = Due.told("numbers 1 to 4;speaker nothing;speaker sum liar deaf;");
        Due.is("23 liars and deaf aside", 6, () -> idle.rest(0, 1));
        Due.is("24 behind an idle turn", 1, () -> idle.when(0, 1, 0));
    }

    private static void soonest() {
        TwoSlips x = Due.told(NINE + "say 0 even;");
        int w = x.pair(1, 4);
        Due.is("26 how many", 3, () -> x.soonest(w, 1, 0, NONE));
        Due.is("26 turn 0", 1, () -> x.soonest(w, 1, 0, 0));
        Due.is("26 turn 1", 0, () -> x.soonest(w, 1, 0, 1));
        Due.is("26 turn 2", 1, () -> x.soonest(w, 1, 0, 2));
        Due.is("26 not so many", NONE, () -> x.soonest(w, 1, 0, 3));
        Due.is("26 k below", NONE, () -> x.soonest(w, 1, 0, -2));
        // 1 and 6: product and sum by turns, and the last one knows.
        Due.is("26 five turns", 5, () -> x.soonest(5, 1, 0, NONE));
        Due.is("26 the last of five", 1, () -> x.soonest(5, 1, 0, 4));
        Due.is("26 no sixth", NONE, () -> x.soonest(5, 1, 0, 5));
        Due.is("26 nobody wanted", 0, () -> x.soonest(w, 0, 0, NONE));
        Due.is("26 nobody wanted, one hidden", 0, () -> x.soonest(w, 0, 2, NONE));
        Due.is("26 hidden and wanted", NONE, () -> x.soonest(w, 1, 1, NONE));
        Due.is("26 hidden knows at first", NONE, () -> x.soonest(0, 0, 1, NONE));
        Due.is("26 too far", NONE, () -> x.soonest(x.pair(2, 8), 1, 0, NONE));
        Due.noSuch("26 soonest(45, 9, 9, 0)", () -> x.soonest(45, 9, 9, 0));
        Due.illegal("26 wanted 4", () -> x.soonest(0, 4, 0, 0));
        Due.illegal("26 hidden 4", () -> x.soonest(0, 0, 4, 0));
        Due.illegal("26 wanted -1", () -> x.soonest(0, -1, 0, 0));
        Due.illegal("26 hidden MIN", () -> x.soonest(0, 0, MIN, 0));
        // The same told twice: the first by speakers answers.
        TwoSlips twice = Due.told("numbers 1 to 4;speaker sum;speaker product;speaker product liar deaf;");
        Due.is("26 the first by speakers", 1, () -> twice.soonest(3, 1, 0, 0));
        Due.is("26 hidden ones stop the first", NONE, () -> twice.soonest(2, 1, 4, NONE));
    }

    private static void shortest() {
        TwoSlips x = Due.told(NINE);
        Due.is("27 how many", 3, () -> x.shortest(4, 0));
        Due.is("27 the world", 3, () -> x.shortest(3, 1));
        Due.is("27 number 0", 2, () -> x.shortest(4, 10));
        Due.is("27 number 1", 0, () -> x.shortest(4, 11));
        Due.is("27 number 2", 3, () -> x.shortest(4, 12));
        Due.is("27 not so many", NONE, () -> x.shortest(4, 13));
        Due.is("27 not within two", NONE, () -> x.shortest(2, 0));
        Due.is("27 not within one", NONE, () -> x.shortest(1, 10));
        Due.illegal("27 shortest(0, 0)", () -> x.shortest(0, 0));
        Due.illegal("27 shortest(5, 0)", () -> x.shortest(5, 0));
        Due.illegal("27 shortest(4, 2)", () -> x.shortest(4, 2));
        Due.illegal("27 shortest(4, 9)", () -> x.shortest(4, 9));
        Due.illegal("27 shortest(4, 14)", () -> x.shortest(4, 14));
        Due.illegal("27 shortest(4, -1)", () -> x.shortest(4, -1));
        Due.illegal("27 shortest(4, MIN)", () -> x.shortest(4, MIN));
        TwoSlips one = Due.told("numbers 5 to 5;speaker sum;");
        Due.is("27 one from the start", 0, () -> one.shortest(1, 0));
        Due.is("27 one from the start", 0, () -> one.shortest(1, 1));
        Due.is("27 one from the start", NONE, () -> one.shortest(1, 10));
        Due.is("27 no world", NONE, () -> Due.told("numbers 5 to 5;unlike;speaker sum;").shortest(4, 0));
        TwoSlips first = Due.told("numbers 1 to 2;speaker nothing;speaker odd liar;speaker odd;");
        Due.is("27 says that he knows", 3, () -> first.shortest(4, 10));
        Due.is("27 the one odd sum", 1, () -> first.shortest(4, 1));
    }

    private static void liars() {
        TwoSlips x = Due.told(SHY);
        Due.is("28 liar(0)", 0, () -> x.liar(0));
        Due.is("28 liar(1)", 6, () -> x.liar(1));
        Due.noSuch("28 liar(2)", () -> x.liar(2));
        Due.noSuch("28 liar(-1)", () -> x.liar(-1));
        Due.is("29 none", 0, () -> x.which());
        // The told liar counts for no more than any other one.
        TwoSlips y = Due.told("numbers 1 to 4;speaker sum;speaker product liar;say 0 above 3;say 0 not above 7;say 1 above 7;");
        Due.is("28 the told liar alone", 7, () -> y.liar(1));
        Due.is("28 another one alone", 0, () -> y.liar(0));
        TwoSlips z = Due.told("numbers 1 to 4;speaker sum;speaker greater;speaker nothing;say 0 above 2;say 1 above 0;say 2 above 0;");
        Due.is("28 the sum lies", 1, () -> z.liar(0));
        Due.is("28 the greater lies", 0, () -> z.liar(1));
        Due.is("29 the sum", 1, () -> z.which());
        Due.is("29 both", 3, () -> Due.told("numbers 1 to 4;speaker sum;speaker sum;say 0 above 2;say 1 not above 7;").which());
        Due.is("29 no speakers", 0, () -> Due.told("numbers 1 to 1;").which());
    }

    private static void ordersOfTurns() {
        TwoSlips x = Due.told(SHY);
        Due.is("30 how many", 1, () -> x.orders(3, NONE));
        Due.is("30 turn 0", 0, () -> x.orders(3, 0));
        Due.is("30 turn 1", 1, () -> x.orders(3, 1));
        Due.is("30 not so many", NONE, () -> x.orders(3, 2));
        Due.is("30 k below", NONE, () -> x.orders(3, -2));
        Due.is("30 none", 0, () -> x.orders(0, NONE));
        Due.is("30 none", NONE, () -> x.orders(0, 0));
        Due.noSuch("30 orders(10, 0)", () -> x.orders(10, 0));
        Due.noSuch("30 orders(-1, 0)", () -> x.orders(-1, 0));
        TwoSlips turned = Due.told(FOUR + "say 0 knows 0;say 1 not knows 1;");
        Due.is("30 the other way round", 1, () -> turned.orders(3, NONE));
        Due.is("30 the other way round", 1, () -> turned.orders(3, 0));
        Due.is("30 the other way round", 0, () -> turned.orders(3, 1));
        String even = "say 0 even;";
        Due.is("30 six turns", 720, () -> Due.told(FOUR + even.repeat(6)).orders(0, NONE));
        Due.is("30 six turns", 5, () -> Due.told(FOUR + even.repeat(6)).orders(0, 5));
        Due.is("30 seven turns", NONE, () -> Due.told(FOUR + even.repeat(7)).orders(0, NONE));
        Due.is("30 seven turns", NONE, () -> Due.told(FOUR + even.repeat(7)).orders(0, 0));
        Due.noSuch("30 seven turns, no world", () -> Due.told(FOUR + even.repeat(7)).orders(10, 0));
        Due.is("30 no turns", 1, () -> Due.told(FOUR).orders(0, NONE));
        Due.is("30 no turns", NONE, () -> Due.told(FOUR).orders(0, 0));
    }

    private static void mended() {
        // Only of 3 and 3 the sum is above 5; who is told nothing can't be sure of it.
        TwoSlips x = Due.told("numbers 1 to 3;speaker nothing;speaker sum;speaker product;say 0 above 0;say 0 above 5;");
        Due.is("31 the turn", 1, () -> x.mended(0));
        Due.is("31 the speaker", 1, () -> x.mended(1));
        Due.is("31 the world", 5, () -> x.mended(2));
        Due.is("31 nothing changes", 0, () -> x.turn(1));
        Due.illegal("31 mended(3)", () -> x.mended(3));
        Due.illegal("31 mended(-1)", () -> x.mended(-1));
        TwoSlips none = Due.told(SHY);
        Due.is("31 none", NONE, () -> none.mended(0));
        Due.is("31 none", NONE, () -> none.mended(1));
        Due.is("31 none", NONE, () -> none.mended(2));
        Due.is("31 another one, though it is fine", NONE, () -> Due.told("numbers 1 to 1;speaker sum;say 0 even;").mended(0));
        Due.is("31 told behind the turn", 1,
            () -> Due.told("numbers 1 to 3;speaker nothing;say 0 above 5;speaker sum;").mended(1));
        Due.is("31 the turns behind it are said on", NONE,
            () -> Due.told("numbers 1 to 3;speaker nothing;say 0 above 5;speaker sum;say 1 not above 5;").mended(0));
    }

    private static void rowsOfAnswers() {
        TwoSlips x = Due.told(FOUR + "say 0 even;");
        x.tray(0, 0, 3);
        x.write(0, 0, 2);
        x.write(0, 1, 1);
        x.write(0, 2, 2);
        Due.is("32 how many", 2, () -> x.answers(0, 0));
        Due.is("32 the first", 3, () -> x.answers(0, 1));
        Due.is("32 answers", 3, () -> x.answers(0, 2));
        x.write(0, 0, 3);
        Due.is("32 none left in the end", 0, () -> x.answers(0, 0));
        Due.is("32 it goes on when none is left", 3, () -> x.answers(0, 2));
        x.write(0, 1, 4);
        Due.is("32 ends at no speaker", 1, () -> x.answers(0, 2));
        Due.is("32 knows", 8, () -> x.answers(0, 0));
        x.write(0, 0, 255);
        Due.is("32 ends at a number below 0", 0, () -> x.answers(0, 2));
        Due.is("32 all", 10, () -> x.answers(0, 0));
        x.tray(1, 3, 1);
        x.write(1, 0, 1L << 32);
        Due.is("32 a number of 64 bits", 0, () -> x.answers(1, 2));
        x.write(1, 0, Long.MIN_VALUE);
        Due.is("32 the least number", 0, () -> x.answers(1, 2));
        x.tray(2, 1, 2);
        Due.is("32 none left twice", 6, () -> x.answers(2, 0));
        x.write(2, 1, 1);
        Due.is("32 no first", NONE, () -> x.answers(2, 1));
        Due.is("32 none left", 0, () -> x.answers(2, 0));
        x.tray(2, 1, 0);
        Due.is("32 an empty row", 0, () -> x.answers(2, 2));
        Due.is("32 an empty row", 0, () -> x.answers(2, 1));
        Due.noSuch("32 answers(4, 9)", () -> x.answers(4, 9));
        Due.noSuch("32 answers(-1, 0)", () -> x.answers(-1, 0));
        Due.illegalState("32 answers(3, 9)", () -> x.answers(3, 9));
        Due.illegal("32 answers(0, 3)", () -> x.answers(0, 3));
        Due.illegal("32 answers(0, -1)", () -> x.answers(0, -1));
    }

    private static void trays() {
        TwoSlips x = Due.told("numbers 1 to 60;speaker sum;say 0 not above 119 and above 118 or not above 2;");
        Due.noSuch("33 tray(4, 9, 9)", () -> Due.done(() -> x.tray(4, 9, 9)));
        Due.noSuch("33 tray(-1, 0, 0)", () -> Due.done(() -> x.tray(-1, 0, 0)));
        Due.illegal("33 tray(0, 4, 0)", () -> Due.done(() -> x.tray(0, 4, 0)));
        Due.illegal("33 tray(0, -1, 0)", () -> Due.done(() -> x.tray(0, -1, 0)));
        Due.illegal("33 tray(0, 0, 41)", () -> Due.done(() -> x.tray(0, 0, 41)));
        Due.illegal("33 tray(0, 0, -1)", () -> Due.done(() -> x.tray(0, 0, -1)));
        Due.illegalState("34 still missing", () -> x.write(0, 0, 1));
        Due.illegalState("34 missing before its place", () -> x.write(0, 99, 1));
        Due.noSuch("34 write(4, 0, 0)", () -> x.write(4, 0, 0));
        Due.noSuch("34 write(-1, 0, 0)", () -> x.write(-1, 0, 0));
        long v = 0x123456789abcdef0L;
        long[] cut = {(byte) v, (short) v, (int) v, v};
        for (int sort = 0; sort < 4; sort++) {
            int asked = sort;
            x.tray(sort, sort, 40);
            Due.is("34 cut to sort " + sort, cut[sort], () -> x.write(asked, 39, v));
            Due.is("34 -1 in sort " + sort, -1L, () -> x.write(asked, 0, -1));
            Due.is("34 no place 40", "throws.IndexOutOfBoundsException", () -> x.write(asked, 40, 0));
            Due.is("34 no place -1", "throws.IndexOutOfBoundsException", () -> x.write(asked, -1, 0));
        }
        Due.is("34 128 in 8 bits", -128L, () -> x.write(0, 0, 128));
        Due.is("34 65535 in 16 bits", -1L, () -> x.write(1, 0, 65535));
        x.tray(1, 2, 1);
        Due.is("33 a new row has 0s", 1, () -> x.answers(1, 2));
        Due.is("34 no place 1", "throws.IndexOutOfBoundsException", () -> x.write(1, 1, 0));
        x.tray(1, 2, 0);
        Due.is("34 no place 0", "throws.IndexOutOfBoundsException", () -> x.write(1, 0, 0));
        Due.is("35 no places", 0, () -> x.pour(1));
        Due.noSuch("35 pour(4)", () -> x.pour(4));
        Due.noSuch("35 pour(-1)", () -> x.pour(-1));
        Due.illegalState("35 pour of a missing one", () -> new TwoSlips().pour(3));
    }

    /** What was poured can only be read back as a row of answers. */
    private static void pour() {
        TwoSlips y = Due.told("numbers 1 to 3;speaker sum;speaker product;say 0 not above 3;");
        // Worlds 0 and 1 are left: as answers, the sum doesn't know, then he does.
        y.tray(0, 0, 4);
        y.write(0, 2, 99);
        y.write(0, 3, 1);
        Due.is("35 pour two of four", 2, () -> y.pour(0));
        Due.is("35 behind them all stays", 2, () -> y.answers(0, 2));
        y.write(0, 1, 0);
        Due.is("35 written over", 2, () -> y.answers(0, 0));
        y.pour(0);
        Due.is("35 poured again", 0, () -> y.answers(0, 0));
        y.tray(1, 3, 1);
        Due.is("35 one place", 1, () -> y.pour(1));
        Due.is("35 one place", 2, () -> y.answers(1, 0));
        Due.is("35 forty places", 40, () -> {
            TwoSlips x = new TwoSlips();
            x.tray(0, 0, 40);
            return x.pour(0);
        });
        // World 1034 alone is left: 10 in 8 bits, which is an answer of the last speaker.
        TwoSlips z = Due.told("numbers 1 to 45;speaker sum;" + "speaker nothing;".repeat(5) + "say 0 above 89;");
        Due.is("35 the world", 1034, () -> z.only());
        z.tray(0, 0, 1);
        z.tray(1, 1, 1);
        Due.is("35 in 8 bits", 1, () -> z.pour(0));
        Due.is("35 in 8 bits", 1, () -> z.answers(0, 2));
        Due.is("35 in 16 bits", 1, () -> z.pour(1));
        Due.is("35 in 16 bits", 0, () -> z.answers(1, 2));
        Due.is("35 none is left", 0, () -> {
            TwoSlips x = Due.told("numbers 1 to 2;unlike;most 2;");
            x.tray(3, 2, 40);
            return x.pour(3);
        });
    }

    private static void images() {
        TwoSlips x = Due.told(SHY);
        Due.noSuch("36 image(3)", () -> Due.done(() -> x.image(3)));
        Due.noSuch("36 image(-1)", () -> Due.done(() -> x.image(-1)));
        Due.noSuch("37 restore(3)", () -> Due.done(() -> x.restore(3)));
        Due.noSuch("37 restore(-1)", () -> Due.done(() -> x.restore(-1)));
        Due.illegalState("37 restore(0)", () -> Due.done(() -> x.restore(0)));
        Due.is("36 image(0)", "done", () -> Due.done(() -> x.image(0)));
        Due.tell(x, SURE);
        x.image(1);
        Due.tell(x, "unlike;");
        x.image(2);
        Due.tell(x, NINE);
        Due.feed(x, "unlike");
        x.tray(0, 0, 1);
        Due.is("37 nine", 45, () -> x.left(0));
        x.restore(0);
        Due.is("37 the talk of image 0", 2, () -> x.left(2));
        Due.is("37 the tape stays", 20, () -> x.count(8));
        Due.is("37 trays stay", 0L, () -> x.write(0, 0, 0));
        x.restore(1);
        Due.is("37 the talk of image 1", 9, () -> x.only());
        x.restore(2);
        Due.is("37 the talk of image 2", 171, () -> x.count(7));
        x.image(0);
        x.restore(1);
        x.restore(0);
        Due.is("37 an image made anew", 171, () -> x.left(0));
        Due.is("37 restored twice", 9, () -> {
            x.restore(1);
            return x.only();
        });
        Due.is("37 a fault behind it", -12, () -> x.talk(7));
        Due.is("37 a fault changes nothing", 9, () -> x.only());
        x.restore(1);
        Due.is("37 the fault stays", 2, () -> x.fault(0));
        for (int i = 0; i < 3; i++) {
            x.image(i);
        }
        Due.tell(x, NINE);
        Due.tell(x, SHY);
        Due.tell(x, NINE);
        for (int i = 0; i < 3; i++) {
            x.restore(i);
            Due.is("37 one talk in all images", 9, () -> x.only());
        }
        TwoSlips fresh = new TwoSlips();
        fresh.image(2);
        Due.tell(fresh, NINE);
        fresh.restore(2);
        Due.is("37 as it was at first", 190, () -> fresh.count(7));
    }

    private static void counts() {
        TwoSlips x = Due.told("numbers 3 to 30;most 40;unlike;speaker sum;speaker less deaf;say 0 even;say 1 same;say 0 even;");
        Due.feed(x, "tape");
        int[] counts = {8, 3, 30, 40, 1, 2, 3, 278, 20};
        for (int what = 0; what < counts.length; what++) {
            int asked = what;
            Due.is("38 count(" + what + ")", counts[what], () -> x.count(asked));
        }
        Due.is("38 count(9)", NONE, () -> x.count(9));
        Due.is("38 count(-1)", NONE, () -> x.count(-1));
        Due.is("38 count(MIN)", NONE, () -> x.count(MIN));
    }

    private static int[] askAll(TwoSlips x) {
        x.tray(0, 0, 2);
        x.write(0, 0, 2);
        return new int[] {x.count(7), x.only(), x.left(x.count(6)), x.leftAt(0, 4), x.judge(3), x.upTo(0), x.upTo(1), x.ends(1, 5),
            x.rest(0, 1), x.when(0, 1, 3), x.longest(1, 0, 0), x.longest(0, 1, 1), x.soonest(3, 1, 0, NONE), x.soonest(3, 1, 0, 0),
            x.shortest(4, 0), x.shortest(4, 1), x.shortest(4, 10), x.liar(0), x.liar(1), x.which(), x.orders(3, NONE), x.orders(3, 0),
            x.mended(0), x.mended(1), x.mended(2), x.answers(0, 0), x.answers(0, 1), x.knowing(0, 0), x.heap(1, 3, 0), x.strikes(0)};
    }

    /** What was found out of one talk is not told of the next. */
    private static void talksInTurn() {
        String[] texts = {SHY, SURE, NINE, FOUR, "numbers 1 to 4;speaker product;speaker sum;say 0 not knows 0;say 1 knows 1;",
            "numbers 2 to 6;speaker sum;speaker difference;say 1 not knows 0;", "numbers 1 to 4;unlike;speaker less;speaker sum liar;say 1 even;"};
        TwoSlips x = new TwoSlips();
        for (int one = 0; one < texts.length; one++) {
            for (int other = 0; other < texts.length; other++) {
                Due.tell(x, texts[one]);
                x.image(one % 3);
                String first = java.util.Arrays.toString(askAll(x));
                Due.tell(x, texts[other]);
                String second = java.util.Arrays.toString(askAll(x));
                x.restore(one % 3);
                String third = java.util.Arrays.toString(askAll(x));
                String whole = java.util.Arrays.toString(askAll(Due.told(texts[one])));
                Due.is("talk " + one, whole, () -> first);
                Due.is("talk " + other + " behind " + one, java.util.Arrays.toString(askAll(Due.told(texts[other]))), () -> second);
                Due.is("talk " + one + " restored behind " + other, whole, () -> third);
            }
        }
    }

    public static void main(String[] args) {
        newObject();
        feed();
        talk();
        fault();
        worlds();
        speakers();
        left();
        sayings();
        knowledge();
        strikesAndEnds();
        muteTalks();
        soonest();
        shortest();
        liars();
        ordersOfTurns();
        mended();
        rowsOfAnswers();
        trays();
        pour();
        images();
        counts();
        talksInTurn();
        Due.end();
    }
}
