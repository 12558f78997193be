/** The terms of what is sought: mute talks, soonest, shortest, liars, orders, mended talks, answers; of trays and images. */
final class SoughtSentences {
    private static final int NONE = TwoSlips.NONE;
    // 0 (1,1) 1 (1,2) 2 (1,3) 3 (1,4) 4 (2,2) 5 (2,3) 6 (2,4) 7 (3,3) 8 (3,4) 9 (4,4).
    private static final String FOUR = "numbers 1 to 4;speaker sum;speaker product;";
    private static final String NINE = "numbers 1 to 9;speaker sum;speaker product;";

    private SoughtSentences() {
    }

    static void hold() {
        mute();
        soonest();
        shortest();
        liarsAndOrders();
        mended();
        rowsOfAnswers();
        trays();
        images();
    }

    private static void endsAre(String talk, int one, int other, String ends) {
        TwoSlips x = Due.told(talk);
        Due.is("ends of " + one + ", " + other + " in " + talk, ends, () -> {
            StringBuilder all = new StringBuilder();
            for (int w = 0; w < x.count(7); w++) {
                int end = x.when(one, other, w);
                all.append(end == NONE ? "-" : "" + end);
            }
            return all;
        });
    }

    private static void mute() {
        Doc.says("sought", "MUTE: two SPEAKERS say by turns, from all WORLDS on, that they don't KNOW (ANSWERS),");
        endsAre(FOUR, 1, 0, "0001100000");
        endsAre(FOUR, 0, 1, "0012211100");
        // What the talk says, who lies and who is deaf is all one to it.
        endsAre(FOUR + "say 0 above 7;", 0, 1, "0012211100");
        endsAre("numbers 1 to 4;speaker sum deaf;speaker product liar;say 1 even;", 0, 1, "0012211100");
        endsAre("numbers 1 to 4;speaker odd;speaker sum;speaker nothing;speaker product;", 3, 1, "0001100000");

        Doc.says("sought", "as long as it strikes something within two turns: REST: what is LEFT in the end.");
        TwoSlips idle = Due.told("numbers 1 to 4;speaker nothing;speaker less;speaker odd;");
        Due.is("one turn strikes nothing, the next one does", 9, () -> idle.rest(0, 1));
        Due.is("the first one strikes, the next two don't", 9, () -> idle.rest(1, 0));
        Due.is("nothing is ever struck", 10, () -> idle.rest(0, 2));
        Due.is("less and odd", 9, () -> idle.rest(1, 2));
        Due.is("nothing and odd", 10, () -> idle.rest(0, 2));
        Due.is("less and nothing", 9, () -> idle.rest(1, 0));
        Due.is("odd and nothing", 10, () -> idle.rest(2, 0));
        Due.is("all is struck", 0, () -> Due.told(FOUR).rest(0, 1));
        Due.is("long", 8, () -> Due.told(NINE).rest(0, 1));
        Due.is("one world", 0, () -> Due.told("numbers 5 to 5;speaker nothing;speaker odd;").rest(0, 1));
        Due.is("each strikes one, then nobody any", 13, () -> Due.told("numbers 1 to 6;unlike;speaker greater;speaker less;").rest(0, 1));

        Doc.says("sought", "A WORLD ENDS behind so many such turns, if the SPEAKER of the next one KNOWS there then.");
        endsAre("numbers 1 to 4;speaker nothing;speaker less;", 0, 1, "---------1");
        endsAre("numbers 1 to 4;speaker nothing;speaker less;", 1, 0, "---------0");
        endsAre("numbers 1 to 4;speaker nothing;speaker odd;", 0, 1, "----------");
        endsAre("numbers 5 to 5;speaker nothing;speaker odd;", 0, 1, "0");
        Due.is("sum first: 2 and 8 behind nine", 9, () -> Due.told(NINE).when(0, 1, 15));
        Due.is("product first: behind eight", 8, () -> Due.told(NINE).when(1, 0, 15));
    }

    private static void rowIs(TwoSlips x, int w, int wanted, int hidden, String row) {
        Due.is("soonest in " + w + " for " + wanted + " without " + hidden, row, () -> {
            int turns = x.soonest(w, wanted, hidden, NONE);
            if (turns == NONE) {
                return "none";
            }
            StringBuilder all = new StringBuilder();
            for (int k = 0; k < turns; k++) {
                all.append(x.soonest(w, wanted, hidden, k));
            }
            return all;
        });
    }

    private static void soonest() {
        Doc.says("sought", "SOONEST in a WORLD for wanted SPEAKERS, and hidden ones: the fewest TURNS, each of one SPEAKER who gives his"
            + " ANSWER as it is there, from all WORLDS on, behind which all wanted ones KNOW there,");
        TwoSlips four = Due.told(FOUR + "say 0 above 9;");
        rowIs(four, 3, 1, 0, "1");
        rowIs(four, 2, 1, 0, "1");
        rowIs(four, 2, 3, 0, "1");
        rowIs(four, 3, 1, 0, "1");
        rowIs(four, 3, 2, 0, "none");
        rowIs(four, 3, 3, 0, "none");
        rowIs(four, 6, 1, 0, "none");
        rowIs(four, 0, 3, 0, "");
        rowIs(four, 3, 0, 0, "");
        TwoSlips three = Due.told("numbers 1 to 3;speaker greater;speaker less;speaker difference;");
        rowIs(three, 1, 4, 0, "021");
        rowIs(three, 3, 2, 0, "012");

        Doc.says("sought", "and behind none of which (and at first) any hidden one does;");
        rowIs(four, 2, 1, 2, "none");
        rowIs(four, 0, 0, 1, "none");
        rowIs(four, 0, 0, 2, "none");
        rowIs(four, 2, 0, 1, "");
        rowIs(four, 3, 1, 2, "1");
        rowIs(four, 3, 1, 1, "none");
        rowIs(three, 1, 4, 1, "120");
        // Nobody is wanted, one is hidden who would learn: no turn need be said.
        rowIs(four, 3, 0, 3, "");
        TwoSlips way = Due.told("numbers 1 to 3;speaker greater;speaker difference;speaker sum;");
        rowIs(way, 2, 1, 0, "1");
        rowIs(way, 2, 1, 4, "2");
        TwoSlips twice = Due.told("numbers 1 to 4;speaker sum;speaker product;speaker sum;");
        rowIs(twice, 3, 1, 4, "none");

        Doc.says("sought", "of like rows the first by SPEAKERS.");
        rowIs(Due.told("numbers 1 to 4;speaker sum;speaker product;speaker product;"), 3, 1, 0, "1");
        rowIs(Due.told("numbers 1 to 4;speaker product;speaker product;speaker sum;"), 3, 4, 0, "0");
        rowIs(Due.told("numbers 1 to 4;speaker product;speaker difference;speaker sum;"), 3, 4, 0, "0");
        rowIs(Due.told("numbers 1 to 4;speaker difference;speaker product;speaker sum;"), 3, 4, 0, "0");
        rowIs(Due.told("numbers 1 to 3;speaker less;speaker greater;speaker difference;"), 3, 2, 0, "012");
        rowIs(Due.told("numbers 1 to 3;speaker less;speaker greater;speaker difference;"), 4, 4, 0, "021");

        Doc.says("sought", "At most 5 TURNS.");
        TwoSlips nine = Due.told(NINE);
        rowIs(nine, 5, 1, 0, "10101");
        // Of 3 and 4 both know behind six turns, not sooner.
        rowIs(nine, 18, 3, 0, "none");
        rowIs(nine, 15, 1, 0, "none");
    }

    private static void shortestIs(String talk, int n, String numbers, int world) {
        TwoSlips x = Due.told(talk);
        Due.is("shortest with " + n + " in " + talk, numbers, () -> {
            int turns = x.shortest(n, 0);
            if (turns == NONE) {
                return "none";
            }
            StringBuilder all = new StringBuilder();
            for (int k = 0; k < turns; k++) {
                all.append(x.shortest(n, 10 + k));
            }
            return all;
        });
        Due.is("its world", world, () -> x.shortest(n, 1));
    }

    private static void shortest() {
        Doc.says("sought", "SHORTEST with n TURNS at most (1 to 4): the fewest ANSWERS, from all WORLDS on, that leave just one;");
        String ten = "numbers 1 to 10;speaker sum;speaker product;";
        shortestIs("numbers 1 to 2;speaker odd;", 1, "1", 1);
        shortestIs("numbers 1 to 2;speaker odd;say 0 above 9;", 4, "1", 1);
        shortestIs("numbers 1 to 7;speaker product;speaker digit;", 1, "none", NONE);
        shortestIs("numbers 1 to 7;speaker product;speaker digit;", 2, "13", 10);
        shortestIs(NINE, 2, "none", NONE);
        shortestIs(NINE, 3, "203", 3);
        shortestIs(NINE, 4, "203", 3);
        shortestIs(ten, 3, "none", NONE);
        shortestIs(ten, 4, "2021", 11);
        shortestIs("numbers 1 to 12;speaker sum;speaker product;", 4, "none", NONE);
        shortestIs("numbers 5 to 5;speaker sum;", 1, "", 0);
        shortestIs("numbers 5 to 5;", 4, "", 0);
        shortestIs("numbers 5 to 6;", 4, "none", NONE);

        Doc.says("sought", "of like ones the first by numbers: 2 times the SPEAKER, and 1 more, if he says that he KNOWS.");
        shortestIs("numbers 1 to 2;speaker nothing;speaker odd;speaker odd;", 4, "3", 1);
        shortestIs("numbers 1 to 2;speaker less;speaker odd;", 4, "1", 2);
        shortestIs("numbers 1 to 2;speaker odd;speaker less;", 4, "1", 1);
        shortestIs("numbers 1 to 2;speaker greater;speaker less;", 4, "1", 0);
        shortestIs("numbers 1 to 9;speaker product;speaker sum;", 4, "021", 3);
        shortestIs("numbers 1 to 7;speaker digit;speaker product;", 4, "31", 10);
        shortestIs("numbers 1 to 9;speaker product;", 4, "none", NONE);
    }

    private static void liarsAndOrders() {
        Doc.says("sought", "If one SPEAKER were a LIAR (he alone): what is LEFT in the end.");
        TwoSlips x = Due.told("numbers 1 to 4;speaker sum;speaker product liar;say 0 above 3;say 1 not above 7;");
        // Told: sums above 3, of which the product can't be sure that they are not above 7: 4 and 4.
        Due.is("as told", 9, () -> x.only());
        Due.is("the sum lies, the product doesn't", 2, () -> x.liar(0));
        Due.is("the product lies", 1, () -> x.liar(1));
        TwoSlips two = Due.told("numbers 1 to 4;speaker sum liar;speaker product liar;say 0 above 3;say 1 above 7;");
        Due.is("both as told", 2, () -> two.left(2));
        Due.is("the first alone", 0, () -> two.liar(0));
        Due.is("the second alone", 7, () -> two.liar(1));
        Due.is("who says nothing", 1, () -> Due.told("numbers 1 to 4;speaker sum liar;speaker odd;say 0 above 7;").liar(1));

        Doc.says("sought", "ORDERS: of all orders of the TURNS (at most 6) those by which a WORLD is LEFT in the end.");
        String shy = FOUR + "say 0 knows 0;say 1 not knows 1;";
        Due.is("just the other way round", 1, () -> Due.told(shy).orders(3, NONE));
        Due.is("the second one first", 1, () -> Due.told(shy).orders(3, 0));
        Due.is("the first one then", 0, () -> Due.told(shy).orders(3, 1));
        Due.is("in no order", 0, () -> Due.told(shy).orders(9, NONE));
        Due.is("both orders", 2, () -> Due.told(FOUR + "say 0 above 3;say 1 above 2;").orders(9, NONE));
        Due.is("no turns", 1, () -> Due.told(FOUR).orders(9, NONE));
        Due.is("one turn", 1, () -> Due.told(FOUR + "say 0 even;").orders(9, NONE));
        Due.is("six turns", 720, () -> Due.told(FOUR + "say 0 even;".repeat(6)).orders(9, NONE));
        Due.is("seven turns", NONE, () -> Due.told(FOUR + "say 0 even;".repeat(7)).orders(9, NONE));
        Due.is("twenty turns", NONE, () -> Due.told(FOUR + "say 0 even;".repeat(20)).orders(9, NONE));
        // A liar lies in each order: he may say it of odd sums, of which none is left where he comes behind.
        String liar = "numbers 1 to 4;speaker sum liar;speaker sum;speaker nothing;say 0 even;say 2 not even;say 1 above 4;";
        Due.is("a liar, then who hears nothing", 3, () -> Due.told(liar).orders(8, NONE));
        Due.is("the liar first", 0, () -> Due.told(liar).orders(8, 0));
        Due.is("who hears nothing next", 1, () -> Due.told(liar).orders(8, 1));
        Due.is("even ones in no order", 0, () -> Due.told(liar).orders(9, NONE));
        // What was goes by the order, too: only behind another one are the odd ones gone.
        String was = FOUR + "say 0 was 1(sees 1(even));say 0 even;";
        Due.is("what was, in order", 1, () -> Due.told(was).orders(4, NONE));
        Due.is("what was, in order", 1, () -> Due.told(was).orders(4, 0));
    }

    private static void mendedIs(String talk, int turn, int speaker, int world) {
        TwoSlips x = Due.told(talk);
        Due.is("turn of " + talk, turn, () -> x.mended(0));
        Due.is("speaker of " + talk, speaker, () -> x.mended(1));
        Due.is("world of " + talk, world, () -> x.mended(2));
    }

    private static void mended() {
        Doc.says("sought", "MENDED: the first TURN, then SPEAKER (another one), by which, said by him instead, just one WORLD is LEFT"
            + " in the end.");
        String three = "numbers 1 to 3;speaker nothing;speaker sum;speaker product;";
        mendedIs(three + "say 0 above 0;say 0 above 5;", 1, 1, 5);
        mendedIs(three + "say 0 above 5;say 0 above 5;", 0, 1, 5);
        mendedIs(three + "say 1 above 5;", 0, 2, 5);
        mendedIs(three + "say 2 above 5;", 0, 1, 5);
        mendedIs(three + "say 1 above 5;say 2 above 5;", 0, 2, 5);
        mendedIs(three + "say 0 above 6;", NONE, NONE, NONE);
        mendedIs(three + "say 0 above 4;", NONE, NONE, NONE);
        mendedIs(three + "say 0 above 5;say 1 not above 5;", NONE, NONE, NONE);
        mendedIs(three, NONE, NONE, NONE);
        mendedIs("numbers 1 to 3;speaker sum;say 0 above 5;", NONE, NONE, NONE);
        mendedIs("numbers 1 to 1;speaker sum;speaker sum;say 0 even;", 0, 1, 0);
        mendedIs("numbers 1 to 3;speaker sum;speaker nothing;say 1 above 5;", 0, 0, 5);
        mendedIs("numbers 1 to 3;speaker sum;speaker nothing;say 0 above 3;say 1 above 5;", 1, 0, 5);
        mendedIs("numbers 1 to 3;speaker sum;speaker nothing;say 0 above 3;say 1 above 5;say 1 above 0;say 0 above 1;", 1, 0, 5);
        mendedIs("numbers 1 to 3;speaker nothing;speaker sum liar;say 0 not above 5;", 0, 1, 5);
    }

    private static void answersAre(TwoSlips x, int sort, long[] row, int given, int left, int first) {
        x.tray(0, sort, row.length);
        for (int k = 0; k < row.length; k++) {
            x.write(0, k, row[k]);
        }
        String name = java.util.Arrays.toString(row);
        Due.is("how many of " + name, given, () -> x.answers(0, 2));
        Due.is("left by " + name, left, () -> x.answers(0, 0));
        Due.is("first of " + name, first, () -> x.answers(0, 1));
    }

    private static void rowsOfAnswers() {
        Doc.says("sought", "A ROW OF ANSWERS in a TRAY: numbers as of SHORTEST; ANSWERS behind all WORLDS, one behind the other;");
        TwoSlips x = Due.told(FOUR + "say 0 above 7;");
        answersAre(x, 0, new long[] {}, 0, 10, 0);
        answersAre(x, 0, new long[] {0}, 1, 6, 2);
        answersAre(x, 1, new long[] {1}, 1, 4, 0);
        answersAre(x, 2, new long[] {2}, 1, 2, 3);
        answersAre(x, 3, new long[] {3}, 1, 8, 0);
        answersAre(x, 0, new long[] {3, 0}, 2, 2, 6);
        answersAre(x, 0, new long[] {2, 0}, 2, 0, NONE);
        answersAre(x, 0, new long[] {2, 0, 1, 3, 2}, 5, 0, NONE);
        answersAre(x, 0, new long[40], 40, 6, 2);
        answersAre(Due.told("numbers 5 to 6;"), 0, new long[] {0}, 0, 3, 0);

        Doc.says("sought", "it ends at a number of no SPEAKER.");
        answersAre(x, 0, new long[] {4}, 0, 10, 0);
        answersAre(x, 0, new long[] {0, 4, 2}, 1, 6, 2);
        answersAre(x, 0, new long[] {0, -1, 2}, 1, 6, 2);
        answersAre(x, 0, new long[] {0, 127, 2}, 1, 6, 2);
        answersAre(x, 0, new long[] {0, 128, 2}, 1, 6, 2);
        answersAre(x, 3, new long[] {0, 1L << 32, 2}, 1, 6, 2);
        answersAre(x, 3, new long[] {0, (1L << 32) + 2, 2}, 1, 6, 2);
        answersAre(x, 3, new long[] {0, Long.MIN_VALUE, 2}, 1, 6, 2);
        answersAre(x, 3, new long[] {0, Long.MAX_VALUE, 2}, 1, 6, 2);
        // Cut to its sort, a number is one of a speaker again.
        answersAre(x, 2, new long[] {0, (1L << 32) + 2, 5}, 2, 2, 3);
        answersAre(x, 0, new long[] {256, 258, 5}, 2, 2, 3);
        TwoSlips six = Due.told("numbers 1 to 4;" + "speaker nothing;".repeat(5) + "speaker sum;");
        answersAre(six, 0, new long[] {10}, 1, 6, 2);
        answersAre(six, 0, new long[] {11}, 1, 4, 0);
        answersAre(six, 0, new long[] {12}, 0, 10, 0);
    }

    private static void trays() {
        Doc.says("sought", "TRAYS 0 to 3 are MISSING at first,");
        for (int tray = 0; tray < 4; tray++) {
            int asked = tray;
            Due.illegalState("write to " + tray, () -> new TwoSlips().write(asked, 0, 0));
            Due.illegalState("pour to " + tray, () -> new TwoSlips().pour(asked));
            Due.illegalState("answers of " + tray, () -> new TwoSlips().answers(asked, 0));
            Due.is("a row in " + tray, 0L, () -> {
                TwoSlips x = new TwoSlips();
                x.tray(asked, 0, 1);
                return x.write(asked, 0, 0);
            });
        }
        Due.noSuch("tray 4", () -> new TwoSlips().pour(4));
        Due.noSuch("tray -1", () -> new TwoSlips().pour(-1));

        Doc.says("sought", "or rows of 0 to 40 numbers of 8 bits (sort 0), 16 (1), 32 (2), 64 (3).");
        TwoSlips x = new TwoSlips();
        for (int sort = 0; sort < 4; sort++) {
            int asked = sort;
            long top = -1L >>> 65 - (8 << sort);
            x.tray(1, sort, 40);
            Due.is("the greatest of sort " + sort, top, () -> x.write(1, 0, top));
            Due.is("one more", -top - 1, () -> x.write(1, 39, top + 1));
            Due.is("the least", -top - 1, () -> x.write(1, 39, -top - 1));
            Due.is("one less", top, () -> x.write(1, 39, -top - 2));
            Due.is("forty places", 40, () -> x.pour(1));
            Due.is("no 41st", "throws.IndexOutOfBoundsException", () -> x.write(1, 40, 0));
            Due.illegal("not 41", () -> Due.done(() -> x.tray(1, asked, 41)));
            Due.illegal("not -1", () -> Due.done(() -> x.tray(1, asked, -1)));
            x.tray(1, sort, 0);
            Due.is("no place", 0, () -> x.pour(1));
            Due.is("no first", "throws.IndexOutOfBoundsException", () -> x.write(1, 0, 0));
        }
    }

    private static void images() {
        Doc.says("sought", "IMAGES 0 to 2: the TALK as it was (none at first).");
        TwoSlips x = new TwoSlips();
        for (int i = 0; i < 3; i++) {
            int asked = i;
            Due.illegalState("none at first", () -> Due.done(() -> x.restore(asked)));
        }
        Due.noSuch("no image 3", () -> Due.done(() -> x.image(3)));
        Due.noSuch("no image -1", () -> Due.done(() -> x.image(-1)));
        for (int i = 0; i < 3; i++) {
            Due.tell(x, "numbers 1 to " + (i + 4) + ";" + "speaker sum;".repeat(i + 1) + "say 0 above 5;".repeat(i + 1));
            x.image(i);
        }
        Due.tell(x, "unlike;");
        int[] worlds = {10, 15, 21};
        int[] left = {4, 9, 15};
        for (int i = 2; i >= 0; i--) {
            int asked = i;
            x.restore(i);
            Due.is("worlds of image " + i, worlds[i], () -> x.count(7));
            Due.is("lines of image " + i, 3 + 2 * i, () -> x.count(0));
            Due.is("turns of image " + i, i + 1, () -> x.count(6));
            Due.is("unlike in image " + i, 0, () -> x.count(4));
            Due.is("left by image " + i, left[i], () -> x.left(asked + 1));
        }
    }
}
