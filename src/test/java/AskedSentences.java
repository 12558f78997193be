import java.util.function.IntFunction;

/** Promises 21 to 38: other ends, mute talks, what is sought, trays, images; and how long an object is used. */
final class AskedSentences {
    private static final int NONE = TwoSlips.NONE;
    private static final int MIN = Integer.MIN_VALUE;
    private static final int MAX = Integer.MAX_VALUE;
    // 0 (1,1) 1 (1,2) 2 (1,3) 3 (1,4) 4 (2,2) 5 (2,3) 6 (2,4) 7 (3,3) 8 (3,4) 9 (4,4).
    private static final String FOUR = "numbers 1 to 4;speaker sum;speaker product;";
    private static final String SHY = FOUR + "say 1 not knows 1;say 0 knows 0;";
    private static final String NINE = "numbers 1 to 9;speaker sum;speaker product;";

    private AskedSentences() {
    }

    static void hold() {
        ends();
        upTo();
        mute();
        soonest();
        shortest();
        liars();
        orders();
        mended();
        answers();
        tray();
        write();
        pour();
        images();
        count();
        use();
    }

    private static void throwsAll(String name, String due, IntFunction<Object> call, int... wrong) {
        for (int v : wrong) {
            Due.is(name + " of " + v, "throws." + due, () -> call.apply(v));
        }
    }

    private static void illegal(String name, IntFunction<Object> call, int... wrong) {
        throwsAll(name, "IllegalArgumentException", call, wrong);
    }

    private static void noSuch(String name, IntFunction<Object> call, int... wrong) {
        throwsAll(name, "NoSuchElementException", call, wrong);
    }

    private static void ends() {
        Doc.says(21, "How many WORLDS would be LEFT behind all TURNS, if the numbers went from one to another one.");
        TwoSlips x = Due.told(SHY);
        Due.is("as told", 2, () -> x.ends(1, 4));
        Due.is("ends(1, 3)", 0, () -> x.ends(1, 3));
        Due.is("ends(2, 4)", 0, () -> x.ends(2, 4));
        Due.is("ends(1, 1)", 0, () -> x.ends(1, 1));
        Due.is("ends(60, 60)", 0, () -> x.ends(60, 60));
        TwoSlips even = Due.told("numbers 5 to 6;unlike;most 9;speaker sum;say 0 even;");
        Due.is("most and unlike stay: 1 to 4", 2, () -> even.ends(1, 4));
        Due.is("most and unlike stay: 1 to 60", 6, () -> even.ends(1, 60));
        Due.is("no world", 0, () -> even.ends(9, 9));
        Due.is("without turns all", 1830, () -> new TwoSlips().ends(1, 60));
        Due.is("without turns one", 1, () -> new TwoSlips().ends(60, 60));
        Due.is("without turns one", 1, () -> new TwoSlips().ends(1, 1));
        Due.is("a liar lies on", 6, () -> Due.told("speaker sum liar;say 0 not same;").ends(1, 4));
        Due.is("the deaf goes by those worlds", 4, () -> Due.told("speaker sum deaf;say 0 knows 0;").ends(1, 4));
        Due.is("the talk stays", 4, () -> x.count(2));
        Due.is("what is left stays", 2, () -> x.left(2));

        Doc.says(21, "IllegalArgumentException: they aren't 1 to 60, the second below the first.");
        illegal("ends(from, 60)", from -> x.ends(from, 60), 0, -1, 61, MIN, MAX);
        illegal("ends(1, to)", to -> x.ends(1, to), 0, -1, 61, MIN, MAX);
        illegal("ends(7, to)", to -> x.ends(7, to), 6, 1, 0);
        Due.illegal("ends(61, 61)", () -> x.ends(61, 61));
        Due.illegal("ends(0, 0)", () -> x.ends(0, 0));
        Due.is("ends(7, 7)", 0, () -> x.ends(7, 7));
    }

    private static void upTo() {
        Doc.says(22, "The first of all upper ends from the lower one on to 60 by which just one would be LEFT (what 0), the last (1);");
        TwoSlips all = Due.told("numbers 7 to 9;speaker sum;say 0 not above 14;");
        Due.is("the lower end itself", 7, () -> all.upTo(0));
        Due.is("60", 60, () -> all.upTo(1));
        TwoSlips top = Due.told("numbers 7 to 9;speaker sum;say 0 above 119;");
        Due.is("60 first", 60, () -> top.upTo(0));
        Due.is("60 last", 60, () -> top.upTo(1));
        // Sums above 9 of 3 to 5 and 5, not of fewer numbers; with 6 there are more.
        TwoSlips one = Due.told("numbers 3 to 40;speaker sum;say 0 above 9;");
        Due.is("one alone, first", 5, () -> one.upTo(0));
        Due.is("one alone, last", 5, () -> one.upTo(1));
        TwoSlips sixty = Due.told("numbers 60 to 60;");
        Due.is("60 from 60 on, first", 60, () -> sixty.upTo(0));
        Due.is("60 from 60 on, last", 60, () -> sixty.upTo(1));
        // Without like ones: of 7 and 8 one, of more numbers more.
        TwoSlips unlike = Due.told("numbers 7 to 30;unlike;");
        Due.is("unlike, first", 8, () -> unlike.upTo(0));
        Due.is("unlike, last", 8, () -> unlike.upTo(1));
        // Up to 2 the sum knows 4, up to 3 both 5 and 6, up to 4 of those just 7, then none of them.
        TwoSlips parts = Due.told("numbers 1 to 9;speaker sum;say 0 knows 0 and above 3 and not above 7;");
        Due.is("first of two", 2, () -> parts.upTo(0));
        Due.is("last of two", 4, () -> parts.upTo(1));

        Doc.says(22, "NONE.");
        for (int what = 0; what <= 1; what++) {
            int asked = what;
            Due.is("never one", NONE, () -> Due.told("numbers 1 to 9;speaker sum;say 0 above 120;").upTo(asked));
            Due.is("never just one", NONE, () -> Due.told("numbers 1 to 9;speaker nothing;say 0 above 2;").upTo(asked));
            Due.is("no world at all", NONE, () -> Due.told("numbers 9 to 20;most 17;").upTo(asked));
        }

        Doc.says(22, "IllegalArgumentException: another what.");
        illegal("upTo", what -> all.upTo(what), -1, 2, 3, MIN, MAX);
    }

    private static void mute() {
        TwoSlips x = Due.told(NINE);
        TwoSlips idle = Due.told("numbers 1 to 4;speaker nothing;speaker less;speaker odd;");
        Doc.says(23, "How many are in the REST of two SPEAKERS, the first one beginning.");
        Due.is("sum first", 8, () -> x.rest(0, 1));
        Due.is("product first", 8, () -> x.rest(1, 0));
        Due.is("nothing, less", 9, () -> idle.rest(0, 1));
        // Who begins changes when a world ends, not which ones are the rest.
        TwoSlips two = Due.told("numbers 1 to 3;most 5;speaker sum;speaker odd;");
        Due.is("sum, then odd", 2, () -> two.rest(0, 1));
        Due.is("odd, then sum", 2, () -> two.rest(1, 0));
        Due.is("1 and 1, sum first", 0, () -> two.when(0, 1, 0));
        Due.is("1 and 1, odd first", 1, () -> two.when(1, 0, 0));

        Doc.says(23, "IllegalArgumentException: both are one.");
        Due.illegal("rest(0, 0)", () -> x.rest(0, 0));
        Due.illegal("rest(1, 1)", () -> x.rest(1, 1));
        Due.is("of the same sight they are two", 6, () -> Due.told("numbers 1 to 4;speaker sum;speaker sum;").rest(0, 1));

        Doc.says(24, "Behind how many turns a WORLD ENDS so;");
        Due.is("at once", 0, () -> x.when(0, 1, 0));
        Due.is("2 and 8, sum first", 9, () -> x.when(0, 1, 15));
        Due.is("2 and 8, product first", 8, () -> x.when(1, 0, 15));
        Due.is("4 and 4 behind nothing", 1, () -> idle.when(0, 1, 9));
        Due.illegal("both are one", () -> x.when(1, 1, 0));

        Doc.says(24, "NONE: never.");
        Due.is("never", NONE, () -> idle.when(0, 1, 0));
        Due.is("never, the other way round", NONE, () -> idle.when(1, 0, 0));
        Due.is("nobody ever", NONE, () -> idle.when(0, 2, 9));

        Doc.says(25, "The most turns behind which some WORLD ENDS so (what 0), the first such WORLD (1);");
        Due.is("product first", 8, () -> x.longest(1, 0, 0));
        Due.is("product first", 15, () -> x.longest(1, 0, 1));
        Due.is("sum first", 9, () -> x.longest(0, 1, 0));
        Due.is("sum first", 15, () -> x.longest(0, 1, 1));
        TwoSlips four = Due.told(FOUR);
        Due.is("of two that end last the first", 2, () -> four.longest(0, 1, 0));
        Due.is("of two that end last the first", 3, () -> four.longest(0, 1, 1));
        TwoSlips known = Due.told("numbers 1 to 4;speaker product;speaker nothing;");
        Due.is("eight end at once", 0, () -> known.longest(0, 1, 0));
        Due.is("the first of eight", 0, () -> known.longest(0, 1, 1));
        Due.is("all end at once", 0, () -> Due.told("numbers 5 to 5;speaker odd;speaker sum;").longest(0, 1, 0));
        Due.is("behind one", 1, () -> idle.longest(0, 1, 0));
        Due.is("4 and 4", 9, () -> idle.longest(0, 1, 1));

        Doc.says(25, "NONE: none does.");
        Due.is("none", NONE, () -> idle.longest(0, 2, 0));
        Due.is("none", NONE, () -> idle.longest(0, 2, 1));
        Due.is("no worlds", NONE, () -> Due.told("numbers 5 to 5;unlike;speaker odd;speaker sum;").longest(0, 1, 0));

        Doc.says(25, "IllegalArgumentException: both are one, another what.");
        Due.illegal("longest(0, 0, 0)", () -> x.longest(0, 0, 0));
        Due.illegal("longest(1, 1, 1)", () -> x.longest(1, 1, 1));
        illegal("longest(0, 1, what)", what -> x.longest(0, 1, what), -1, 2, 3, MIN, MAX);
    }

    private static void soonest() {
        TwoSlips x = Due.told(NINE);
        Doc.says(26, "SOONEST in a WORLD, k NONE: how many TURNS, else the SPEAKER of TURN k;");
        Due.is("1 and 4", 3, () -> x.soonest(3, 1, 0, NONE));
        Due.is("turn 0", 1, () -> x.soonest(3, 1, 0, 0));
        Due.is("turn 1", 0, () -> x.soonest(3, 1, 0, 1));
        Due.is("turn 2", 1, () -> x.soonest(3, 1, 0, 2));
        Due.is("1 and 6", 5, () -> x.soonest(5, 1, 0, NONE));
        Due.is("its last", 1, () -> x.soonest(5, 1, 0, 4));
        Due.is("no turn is needed", 0, () -> x.soonest(0, 3, 0, NONE));
        Due.is("nobody is wanted", 0, () -> x.soonest(5, 0, 0, NONE));
        Due.is("no speakers", 0, () -> new TwoSlips().soonest(5, 0, 0, NONE));

        Doc.says(26, "NONE: it can't be so, not so many.");
        Due.is("it can't be so", NONE, () -> x.soonest(3, 1, 1, NONE));
        Due.is("it can't be so, k 0", NONE, () -> x.soonest(3, 1, 1, 0));
        Due.is("more than five", NONE, () -> x.soonest(18, 3, 0, NONE));
        Due.is("more than five, k 0", NONE, () -> x.soonest(18, 3, 0, 0));
        for (int k : new int[] {3, 4, 5, 6, -2, MIN, MAX}) {
            Due.is("three turns, k " + k, NONE, () -> x.soonest(3, 1, 0, k));
        }
        for (int k : new int[] {5, 6, -2, MIN, MAX}) {
            Due.is("five turns, k " + k, NONE, () -> x.soonest(5, 1, 0, k));
        }
        Due.is("no turns, k 0", NONE, () -> x.soonest(0, 3, 0, 0));

        Doc.says(26, "IllegalArgumentException: wanted, hidden ones with others than SPEAKERS (bits).");
        illegal("wanted", wanted -> x.soonest(0, wanted, 0, NONE), 4, 5, 7, 64, -1, MIN, MAX);
        illegal("hidden", hidden -> x.soonest(0, 0, hidden, NONE), 4, 5, 7, 64, -1, MIN, MAX);
        illegal("wanted of none", wanted -> new TwoSlips().soonest(0, wanted, 0, NONE), 1, 2, -1, MIN);
        illegal("hidden of none", hidden -> new TwoSlips().soonest(0, 0, hidden, NONE), 1, 2, -1, MIN);
        TwoSlips six = Due.told("numbers 1 to 3;" + "speaker sum;".repeat(6));
        Due.is("all of six", 0, () -> six.soonest(0, 63, 0, NONE));
        Due.illegal("a seventh wanted", () -> six.soonest(0, 64, 0, NONE));
        Due.illegal("a seventh hidden", () -> six.soonest(0, 0, 64, NONE));
    }

    private static void shortest() {
        TwoSlips x = Due.told(NINE);
        Doc.says(27, "SHORTEST, what 0: how many TURNS, 1: the WORLD that is LEFT, 10 + k: number k;");
        int[] numbers = {2, 0, 3};
        for (int n = 3; n <= 4; n++) {
            int most = n;
            Due.is("turns", 3, () -> x.shortest(most, 0));
            Due.is("world", 3, () -> x.shortest(most, 1));
            for (int k = 0; k < 3; k++) {
                int asked = k;
                Due.is("number " + k, numbers[k], () -> x.shortest(most, 10 + asked));
            }
        }
        TwoSlips ten = Due.told("numbers 1 to 10;speaker sum;speaker product;");
        Due.is("the fourth number", 1, () -> ten.shortest(4, 13));

        Doc.says(27, "NONE: there is none, not so many.");
        for (int n = 1; n <= 2; n++) {
            int most = n;
            for (int what : new int[] {0, 1, 10, 11, 12, 13}) {
                Due.is("within " + n + ", what " + what, NONE, () -> x.shortest(most, what));
            }
        }
        Due.is("not so many", NONE, () -> x.shortest(4, 13));
        Due.is("no number of none", NONE, () -> Due.told("numbers 5 to 5;").shortest(4, 10));
        Due.is("within three, then four", NONE, () -> ten.shortest(3, 13));
        Due.is("within four again", 4, () -> ten.shortest(4, 0));
        Due.is("there is none", NONE, () -> Due.told(FOUR).shortest(4, 0));
        Due.is("no speakers", NONE, () -> new TwoSlips().shortest(4, 0));

        Doc.says(27, "IllegalArgumentException: n, another what (10 to 13).");
        illegal("n", n -> x.shortest(n, 0), 0, -1, 5, 6, MIN, MAX);
        illegal("what", what -> x.shortest(4, what), -1, 2, 3, 9, 14, 15, MIN, MIN + 9, MIN + 10, MAX);
        illegal("what within one", what -> x.shortest(1, what), -1, 2, 9, 14);
        illegal("n and what", n -> x.shortest(n, 14), 0, 5);
    }

    private static void liars() {
        Doc.says(28, "How many are LEFT in the end, if a SPEAKER were a LIAR, and no other one.");
        TwoSlips x = Due.told(SHY);
        Due.is("liar(0)", 0, () -> x.liar(0));
        Due.is("liar(1)", 6, () -> x.liar(1));
        Due.is("the talk stays", 0, () -> x.speaker(1, 1));
        Due.is("what is left stays", 2, () -> x.left(2));
        TwoSlips told = Due.told("numbers 1 to 4;speaker sum liar;speaker product;say 0 above 7;");
        Due.is("the told one", 9, () -> told.liar(0));
        Due.is("another one, not the told one", 1, () -> told.liar(1));
        Due.is("no turns", 10, () -> Due.told(FOUR).liar(0));
        noSuch("liar", s -> x.liar(s), -1, 2, MIN, MAX);

        Doc.says(29, "SPEAKERS (bits) who, each as the only LIAR, leave just one WORLD.");
        Due.is("nobody", 0, () -> x.which());
        Due.is("the other one", 2, () -> told.which());
        Due.is("the first", 1, () -> Due.told("numbers 1 to 4;speaker sum;speaker sum;say 0 above 2;").which());
        Due.is("both", 3, () -> Due.told("numbers 1 to 4;speaker sum;speaker sum;say 0 above 2;say 1 not above 7;").which());
        Due.is("all six", 63, () -> Due.told("numbers 4 to 4;" + "speaker sum;".repeat(6)).which());
        Due.is("the last of six", 32, () -> Due.told("numbers 1 to 4;" + "speaker sum;".repeat(6) + "say 5 above 2;").which());
        Due.is("no speakers", 0, () -> Due.told("numbers 4 to 4;").which());
    }

    private static void orders() {
        TwoSlips x = Due.told(FOUR + "say 0 knows 0;say 1 not knows 1;say 0 above 3;");
        Doc.says(30, "ORDERS by which a WORLD is LEFT, k NONE: how many (0: none), else TURN k of the first one;");
        // 2 and 2: the second one ahead of the first, the third anywhere.
        Due.is("how many", 3, () -> x.orders(4, NONE));
        Due.is("turn 0", 1, () -> x.orders(4, 0));
        Due.is("turn 1", 0, () -> x.orders(4, 1));
        Due.is("turn 2", 2, () -> x.orders(4, 2));
        Due.is("none", 0, () -> x.orders(0, NONE));
        Due.is("another world behind it", 3, () -> x.orders(3, NONE));
        Due.is("no turns", 1, () -> Due.told(FOUR).orders(0, NONE));
        TwoSlips six = Due.told(FOUR + "say 0 even;".repeat(6));
        Due.is("six turns", 720, () -> six.orders(0, NONE));
        for (int k = 0; k < 6; k++) {
            int asked = k;
            Due.is("turn " + k + " of six", k, () -> six.orders(0, asked));
        }

        Doc.says(30, "NONE: there is none, not so many;");
        for (int k : new int[] {0, 1, 2, 3, -2, MIN, MAX}) {
            Due.is("there is none, k " + k, NONE, () -> x.orders(0, k));
        }
        for (int k : new int[] {3, 4, -2, MIN, MAX}) {
            Due.is("not so many, k " + k, NONE, () -> x.orders(4, k));
        }
        Due.is("six turns, k 6", NONE, () -> six.orders(0, 6));
        Due.is("no turns, k 0", NONE, () -> Due.told(FOUR).orders(0, 0));

        Doc.says(30, "also, whatever k, if there are more than 6 TURNS.");
        TwoSlips seven = Due.told(FOUR + "say 0 even;".repeat(7));
        TwoSlips twenty = Due.told(FOUR + "say 0 even;".repeat(20));
        for (int k : new int[] {NONE, 0, 1, 6, 7, MIN, MAX}) {
            Due.is("seven turns, k " + k, NONE, () -> seven.orders(0, k));
            Due.is("seven turns, none, k " + k, NONE, () -> seven.orders(1, k));
            Due.is("twenty turns, k " + k, NONE, () -> twenty.orders(0, k));
        }
        noSuch("seven turns, no world", w -> seven.orders(w, NONE), -1, 10, MIN, MAX);
    }

    private static void mended() {
        Doc.says(31, "MENDED, what 0: the TURN, 1: the SPEAKER, 2: the WORLD;");
        TwoSlips x = Due.told("numbers 1 to 3;speaker nothing;speaker sum;speaker product;say 0 above 0;say 0 above 5;");
        Due.is("turn", 1, () -> x.mended(0));
        Due.is("speaker", 1, () -> x.mended(1));
        Due.is("world", 5, () -> x.mended(2));
        Due.is("the talk stays", 0, () -> x.turn(1));
        Due.is("what is left stays", 0, () -> x.left(2));
        Due.is("the last of twenty", 19,
            () -> Due.told("numbers 1 to 3;speaker nothing;speaker sum;" + "say 1 even;".repeat(19) + "say 0 above 5;").mended(0));
        Due.is("told behind the turn", 1, () -> Due.told("numbers 1 to 3;speaker nothing;say 0 above 5;speaker sum;").mended(1));

        Doc.says(31, "NONE.");
        for (int what = 0; what <= 2; what++) {
            int asked = what;
            Due.is("none", NONE, () -> Due.told(SHY).mended(asked));
            Due.is("no turns", NONE, () -> Due.told("numbers 1 to 1;speaker sum;speaker sum;").mended(asked));
            Due.is("no other speaker", NONE, () -> Due.told("numbers 1 to 1;speaker sum;say 0 even;").mended(asked));
            Due.is("no talk", NONE, () -> new TwoSlips().mended(asked));
        }

        Doc.says(31, "IllegalArgumentException: another what.");
        illegal("mended", what -> x.mended(what), -1, 3, 4, MIN, MAX);
        illegal("mended without turns", what -> new TwoSlips().mended(what), -1, 3, MIN, MAX);
    }

    private static void answers() {
        Doc.says(32, "Of a ROW OF ANSWERS, what 0: how many are LEFT, 1: the first of these (NONE), 2: how many ANSWERS there were.");
        TwoSlips x = Due.told(FOUR);
        x.tray(3, 1, 3);
        x.write(3, 0, 3);
        x.write(3, 1, 0);
        x.write(3, 2, 4);
        Due.is("left", 2, () -> x.answers(3, 0));
        Due.is("first", 6, () -> x.answers(3, 1));
        Due.is("answers", 2, () -> x.answers(3, 2));
        x.write(3, 2, 2);
        Due.is("none left", 0, () -> x.answers(3, 0));
        Due.is("no first", NONE, () -> x.answers(3, 1));
        Due.is("three answers", 3, () -> x.answers(3, 2));
        x.tray(3, 0, 0);
        Due.is("an empty row leaves all", 10, () -> x.answers(3, 0));
        Due.is("the first of all", 0, () -> x.answers(3, 1));
        Due.is("no answers", 0, () -> x.answers(3, 2));

        Doc.says(32, "NoSuchElementException: no such TRAY (as below);");
        noSuch("answers", tray -> x.answers(tray, 0), -1, 4, MIN, MAX);

        Doc.says(32, "IllegalStateException: it is MISSING (as below);");
        throwsAll("answers", "IllegalStateException", tray -> x.answers(tray, 0), 0, 1, 2);
        throwsAll("answers, another what", "IllegalStateException", tray -> x.answers(tray, 3), 0, 1, 2);

        Doc.says(32, "IllegalArgumentException: another what.");
        illegal("answers(3, what)", what -> x.answers(3, what), -1, 3, 4, MIN, MAX);
    }

    private static void tray() {
        Doc.says(33, "A TRAY is a row of so many 0s.");
        TwoSlips x = Due.told(FOUR);
        for (int tray = 0; tray < 4; tray++) {
            int asked = tray;
            for (int many : new int[] {0, 1, 39, 40}) {
                x.tray(tray, tray, many);
                Due.is("answers of " + many + " 0s", many, () -> x.answers(asked, 2));
                Due.is("its places end", "throws.IndexOutOfBoundsException", () -> x.write(asked, many, 0));
                for (int place = 0; place < many; place++) {
                    x.write(tray, place, 99);
                }
            }
        }
        for (int tray = 0; tray < 4; tray++) {
            int asked = tray;
            x.tray(tray, 3 - tray, 40);
            Due.is("all 0s: the sum doesn't know", 6, () -> x.answers(asked, 0));
        }
        x.tray(0, 0, 2);
        Due.is("a shorter row, 0s again", 2, () -> x.answers(0, 2));
        x.tray(0, 3, 40);
        Due.is("a longer row, 0s again", 40, () -> x.answers(0, 2));
        Due.is("another sort", 1L << 40, () -> x.write(0, 0, 1L << 40));

        Doc.says(33, "NoSuchElementException: no such TRAY;");
        noSuch("tray", tray -> Due.done(() -> x.tray(tray, 0, 1)), -1, 4, MIN, MAX);

        Doc.says(33, "IllegalArgumentException: no such sort, or not so many.");
        illegal("sort", sort -> Due.done(() -> x.tray(0, sort, 1)), -1, 4, MIN, MAX);
        illegal("many", many -> Due.done(() -> x.tray(0, 0, many)), -1, 41, MIN, MAX);
        Due.is("the tray stays", 0L, () -> x.write(0, 39, 0));
    }

    private static void write() {
        Doc.says(34, "A number comes to a place of a TRAY, cut to its sort: as it is there.");
        TwoSlips x = Due.told(FOUR);
        long[] written = {0, 1, -1, 127, 128, 255, 256, 32767, 32768, 65536, 1L << 31, 1L << 32, 0x123456789abcdef0L, Long.MIN_VALUE,
            Long.MAX_VALUE};
        for (int sort = 0; sort < 4; sort++) {
            x.tray(2, sort, 3);
            for (long v : written) {
                long cut = new long[] {(byte) v, (short) v, (int) v, v}[sort];
                Due.is(v + " in sort " + sort, cut, () -> x.write(2, 2, v));
            }
        }
        x.tray(2, 0, 3);
        Due.is("in place 1", 5L, () -> x.write(2, 1, 261));
        Due.is("0, then 5", 1, () -> x.answers(2, 2));
        Due.is("in place 1 again", 1L, () -> x.write(2, 1, 1));
        Due.is("0, then 1, then 0", 3, () -> x.answers(2, 2));

        Doc.says(34, "IllegalStateException: it is MISSING;");
        throwsAll("write", "IllegalStateException", tray -> x.write(tray, 0, 0), 0, 1, 3);
        throwsAll("write to no place", "IllegalStateException", tray -> x.write(tray, -1, 0), 0, 1, 3);
        noSuch("write", tray -> x.write(tray, 0, 0), -1, 4, MIN, MAX);

        Doc.says(34, "IndexOutOfBoundsException: it has no such place.");
        throwsAll("place", "IndexOutOfBoundsException", place -> x.write(2, place, 0), -1, 3, 4, 40, MIN, MAX);
        x.tray(2, 0, 0);
        throwsAll("place of none", "IndexOutOfBoundsException", place -> x.write(2, place, 0), -1, 0, 1);
        x.tray(2, 0, 40);
        throwsAll("place of forty", "IndexOutOfBoundsException", place -> x.write(2, place, 0), -1, 40);
    }

    private static void pour() {
        Doc.says(35, "WORLDS that are LEFT behind all TURNS come into a TRAY from its first place on,");
        // Worlds 1 and 2 are left: as answers, the sum knows, then who hears the product doesn't.
        TwoSlips x = Due.told(FOUR + "say 1 not above 4;say 0 above 2;say 0 above 0;");
        Due.is("1 and 2", 2, () -> x.left(3));
        x.tray(0, 0, 3);
        x.write(0, 0, 3);
        x.write(0, 1, 3);
        x.write(0, 2, 99);
        Due.is("poured", 2, () -> x.pour(0));
        Due.is("1, then 2", 0, () -> x.answers(0, 0));
        Due.is("two answers", 2, () -> x.answers(0, 2));
        x.write(0, 1, 99);
        Due.is("the first place", 4, () -> x.answers(0, 0));
        x.pour(0);
        x.write(0, 0, 0);
        Due.is("the second place", 2, () -> x.answers(0, 0));
        x.write(0, 2, 3);
        Due.is("the third place stays", 2, () -> x.pour(0));
        Due.is("the third place stays", 3, () -> x.answers(0, 2));
        TwoSlips none = Due.told(FOUR + "say 0 above 8;");
        none.tray(0, 0, 4);
        Due.is("none is left", 0, () -> none.pour(0));

        Doc.says(35, "cut to its sort,");
        // World 1034 alone is left: 10 in 8 bits, which is an answer of the last speaker.
        TwoSlips z = Due.told("numbers 1 to 45;speaker sum;" + "speaker nothing;".repeat(5) + "say 0 above 89;");
        for (int sort = 0; sort < 4; sort++) {
            int asked = sort;
            z.tray(sort, sort, 1);
            Due.is("one", 1, () -> z.pour(asked));
            Due.is("answers of sort " + sort, sort == 0 ? 1 : 0, () -> z.answers(asked, 2));
        }

        Doc.says(35, "as many as it has places: how many.");
        TwoSlips all = Due.told(FOUR);
        for (int many : new int[] {0, 1, 9, 10, 11, 40}) {
            all.tray(1, 2, many);
            Due.is("into " + many, Math.min(many, 10), () -> all.pour(1));
        }
        all.tray(1, 2, 2);
        all.pour(1);
        // 0, then 1: who doesn't know, knows.
        Due.is("0 and 1", 0, () -> all.answers(1, 0));

        Doc.says(35, "NoSuchElementException: no such TRAY;");
        noSuch("pour", tray -> all.pour(tray), -1, 4, MIN, MAX);

        Doc.says(35, "IllegalStateException: it is MISSING.");
        throwsAll("pour", "IllegalStateException", tray -> all.pour(tray), 0, 2, 3);
    }

    private static void images() {
        Doc.says(36, "An IMAGE is made.");
        TwoSlips x = Due.told(SHY);
        for (int i = 0; i < 3; i++) {
            int asked = i;
            Due.is("image(" + i + ")", "done", () -> Due.done(() -> x.image(asked)));
            Due.is("restore(" + i + ")", "done", () -> Due.done(() -> x.restore(asked)));
        }
        Due.tell(x, NINE);
        x.image(1);
        Due.tell(x, "unlike;");
        x.restore(1);
        Due.is("made anew", 45, () -> x.count(7));
        x.restore(0);
        Due.is("another one stays", 10, () -> x.count(7));

        Doc.says(36, "NoSuchElementException: no such one.");
        noSuch("image", i -> Due.done(() -> x.image(i)), -1, 3, 4, MIN, MAX);

        Doc.says(37, "The TALK is as in an IMAGE.");
        TwoSlips y = new TwoSlips();
        y.image(2);
        Due.tell(y, SHY);
        y.image(0);
        y.tray(0, 0, 2);
        y.write(0, 0, 2);
        Due.tell(y, "most 1;");
        Due.feed(y, "unlike;");
        y.restore(2);
        int[] first = {0, 2, 20, 120, 0, 0, 0, 190, 20};
        for (int what = 0; what < first.length; what++) {
            int asked = what;
            Due.is("as at first, count(" + what + ")", first[what], () -> y.count(asked));
        }
        Due.is("the tray stays, its number is of no speaker now", 0, () -> y.answers(0, 2));
        Due.is("the fault stays", 3, () -> y.fault(0));
        y.restore(0);
        int[] shy = {5, 1, 4, 120, 0, 2, 2, 10, 20};
        for (int what = 0; what < shy.length; what++) {
            int asked = what;
            Due.is("as told, count(" + what + ")", shy[what], () -> y.count(asked));
        }
        Due.is("what is left", 2, () -> y.left(2));
        Due.is("the tray stays", 2, () -> y.answers(0, 2));
        Due.is("the tape stays", 1, () -> y.talk(7));
        y.restore(0);
        Due.is("again", 2, () -> y.left(1));

        Doc.says(37, "NoSuchElementException: no such one;");
        noSuch("restore", i -> Due.done(() -> y.restore(i)), -1, 3, 4, MIN, MAX);

        Doc.says(37, "IllegalStateException: none was made.");
        Due.illegalState("restore(1)", () -> Due.done(() -> y.restore(1)));
        throwsAll("restore", "IllegalStateException", i -> Due.done(() -> new TwoSlips().restore(i)), 0, 1, 2);
        Due.is("all as it was", 2, () -> y.left(1));
    }

    private static void count() {
        Doc.says(38, "0 LINES, 1 the lower end of the numbers, 2 the upper one, 3 most, 4 1 if unlike, 5 SPEAKERS, 6 TURNS, 7 WORLDS,"
            + " 8 bytes on the tape;");
        TwoSlips x = Due.told("numbers 3 to 30;most 40;unlike;speaker sum;speaker less deaf;say 0 even;say 1 same;say 0 even;");
        Due.feed(x, "unlike;");
        int[] counts = {8, 3, 30, 40, 1, 2, 3, 278, 20};
        for (int what = 0; what < counts.length; what++) {
            int asked = what;
            Due.is("count(" + what + ")", counts[what], () -> x.count(asked));
        }
        Due.is("without unlike", 0, () -> Due.told("most 9;").count(4));
        Due.is("unlike twice is two lines", 2, () -> Due.told("unlike;unlike;").count(0));

        Doc.says(38, "NONE for others.");
        for (int what : new int[] {-1, 9, 10, MIN, MAX}) {
            Due.is("count(" + what + ")", NONE, () -> x.count(what));
        }
    }

    private static void use() {
        Doc.says("use", "An object is used for at most 512 calls after it has been made; what later calls answer is free.");
        TwoSlips x = new TwoSlips();
        int calls = 0;
        // 45 calls that fill the tape, one that reads it, so often that with one more there are 512.
        String text = "numbers 1 to 60;speaker sum;speaker product;say 0 not knows 0;";
        for (int round = 0; round < 11; round++) {
            for (int i = 0; i < 45; i++) {
                String twenty = i * 20 < text.length() ? text.substring(i * 20, Math.min(text.length(), i * 20 + 20)) : " ";
                Due.feed(x, twenty);
                calls++;
            }
            Due.is("round " + round, 4, () -> x.talk(900));
            calls++;
        }
        for (; calls < 511; calls++) {
            Due.is("soonest", 1, () -> x.soonest(2, 3, 0, NONE));
        }
        Due.is("the 512th call", 1830, () -> x.left(0));
    }
}
