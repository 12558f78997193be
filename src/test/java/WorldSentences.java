/** The terms of WORLDS, of what is LEFT of them, of what is SO and MAY be said. */
final class WorldSentences {
    private static final int NONE = TwoSlips.NONE;
    // 0 (1,1) 1 (1,2) 2 (1,3) 3 (1,4) 4 (2,2) 5 (2,3) 6 (2,4) 7 (3,3) 8 (3,4) 9 (4,4).
    private static final String FOUR = "numbers 1 to 4;speaker sum;speaker product;";
    // Of it worlds 3 (1,4) and 4 (2,2) are left.
    private static final String SHY = "say 1 not knows 1;";

    private WorldSentences() {
    }

    static void hold() {
        worlds();
        slips();
        plainFacts();
        knowsAndSees();
        was();
        deaf();
        mayBeSaid();
        left();
        answers();
    }

    private static void isSo(String talk, int turn, String worlds) {
        TwoSlips x = Due.told(talk);
        Due.is("turn " + turn + " of " + talk + " is so in", worlds, () -> {
            StringBuilder all = new StringBuilder();
            for (int w = 0; w < x.count(7); w++) {
                all.append(x.so(turn, w) ? "" + w : "");
            }
            return all;
        });
    }

    private static void maySay(String talk, int turn, String worlds) {
        TwoSlips x = Due.told(talk);
        Due.is("turn " + turn + " of " + talk + " may be said in", worlds, () -> {
            StringBuilder all = new StringBuilder();
            for (int w = 0; w < x.count(7); w++) {
                all.append(x.may(turn, w) ? "" + w : "");
            }
            return all;
        });
    }

    private static void leaves(String talk, int turns, String worlds) {
        TwoSlips x = Due.told(talk);
        Due.is("behind " + turns + " of " + talk + " are left", worlds, () -> {
            StringBuilder all = new StringBuilder();
            for (int k = 0; k < x.left(turns); k++) {
                all.append(x.leftAt(turns, k));
            }
            return all;
        });
    }

    private static void pairsAre(String talk, String pairs) {
        TwoSlips x = Due.told(talk);
        Due.is("pairs of " + talk, pairs, () -> {
            StringBuilder all = new StringBuilder();
            for (int w = 0; w < x.count(7); w++) {
                all.append(x.world(w, 0)).append(',').append(x.world(w, 1)).append(' ');
            }
            return all;
        });
    }

    private static void worlds() {
        Doc.says("worlds", "WORLDS are pairs x, y of the numbers, x not above y (below y, if unlike),");
        pairsAre("numbers 5 to 7;", "5,5 5,6 5,7 6,6 6,7 7,7 ");
        pairsAre("numbers 5 to 7;unlike;", "5,6 5,7 6,7 ");
        pairsAre("numbers 5 to 5;", "5,5 ");
        pairsAre("numbers 5 to 5;unlike;", "");
        pairsAre("numbers 59 to 60;unlike;", "59,60 ");
        Due.is("unlike of 60", 1770, () -> Due.told("numbers 1 to 60;unlike;").count(7));

        Doc.says("worlds", "their sum not above most;");
        pairsAre("numbers 5 to 7;most 12;", "5,5 5,6 5,7 6,6 ");
        pairsAre("numbers 5 to 7;most 11;", "5,5 5,6 ");
        pairsAre("numbers 5 to 7;most 10;", "5,5 ");
        pairsAre("numbers 5 to 7;most 9;", "");
        pairsAre("numbers 5 to 7;most 12;unlike;", "5,6 5,7 ");
        pairsAre("numbers 1 to 60;most 2;unlike;", "");
        pairsAre("numbers 1 to 60;most 3;unlike;", "1,2 ");

        Doc.says("worlds", "numbered by x, then y, from 0 on.");
        TwoSlips most = Due.told("numbers 2 to 50;most 9;");
        int[][] pairs = {{2, 2}, {2, 3}, {2, 4}, {2, 5}, {2, 6}, {2, 7}, {3, 3}, {3, 4}, {3, 5}, {3, 6}, {4, 4}, {4, 5}};
        for (int w = 0; w < pairs.length; w++) {
            int asked = w;
            Due.is("x of " + w, pairs[w][0], () -> most.world(asked, 0));
            Due.is("y of " + w, pairs[w][1], () -> most.world(asked, 1));
            Due.is("its number", w, () -> most.pair(pairs[asked][0], pairs[asked][1]));
        }
        Due.is("so many", pairs.length, () -> most.count(7));

        noWorlds();
    }

    /** Where there is no WORLD, each call has its answer all the same. */
    private static void noWorlds() {
        TwoSlips none = Due.told("numbers 9 to 9;unlike;speaker sum;speaker product;say 0 even;say 1 knows 0;");
        none.tray(0, 0, 2);
        none.write(0, 1, 3);
        Due.is("no worlds", 0, () -> none.count(7));
        Due.noSuch("world 0", () -> none.world(0, 0));
        Due.noSuch("told of 0", () -> none.told(0, 0));
        Due.noSuch("judge of 0", () -> none.judge(0));
        Due.noSuch("orders of 0", () -> none.orders(0, NONE));
        Due.noSuch("soonest of 0", () -> none.soonest(0, 0, 0, NONE));
        Due.is("left(0)", 0, () -> none.left(0));
        Due.is("left(2)", 0, () -> none.left(2));
        Due.is("leftAt(0, 0)", NONE, () -> none.leftAt(0, 0));
        Due.is("only", NONE, () -> none.only());
        Due.is("knowing", 0, () -> none.knowing(1, 2));
        Due.is("strikes(0)", 0, () -> none.strikes(0));
        Due.is("strikes(1)", 0, () -> none.strikes(1));
        Due.is("ends(9, 9)", 0, () -> none.ends(9, 9));
        Due.is("rest", 0, () -> none.rest(0, 1));
        Due.is("longest(0)", NONE, () -> none.longest(0, 1, 0));
        Due.is("longest(1)", NONE, () -> none.longest(0, 1, 1));
        Due.is("shortest(0)", NONE, () -> none.shortest(4, 0));
        Due.is("shortest(1)", NONE, () -> none.shortest(4, 1));
        Due.is("liar", 0, () -> none.liar(0));
        Due.is("which", 0, () -> none.which());
        Due.is("mended", NONE, () -> none.mended(2));
        Due.is("answers(0)", 0, () -> none.answers(0, 0));
        Due.is("answers(1)", NONE, () -> none.answers(0, 1));
        Due.is("answers(2)", 2, () -> none.answers(0, 2));
        Due.is("pour", 0, () -> none.pour(0));
    }

    private static void slips() {
        Doc.says("worlds", "SLIP of a SPEAKER in a WORLD: x + y, x times y, y, x, y less x, x x + y y, the sum modulo 2, modulo 10, 0"
            + " (as SIGHTS are told above).");
        int[][] pairs = {{1, 1}, {1, 2}, {4, 5}, {4, 6}, {7, 12}, {1, 60}, {59, 60}, {60, 60}};
        int[][] slips = {{2, 1, 1, 1, 0, 2, 0, 2, 0}, {3, 2, 2, 1, 1, 5, 1, 3, 0}, {9, 20, 5, 4, 1, 41, 1, 9, 0},
            {10, 24, 6, 4, 2, 52, 0, 0, 0}, {19, 84, 12, 7, 5, 193, 1, 9, 0}, {61, 60, 60, 1, 59, 3601, 1, 1, 0},
            {119, 3540, 60, 59, 1, 7081, 1, 9, 0}, {120, 3600, 60, 60, 0, 7200, 0, 0, 0}};
        TwoSlips x = Due.told("numbers 1 to 60;speaker sum;speaker product;speaker greater;speaker less;speaker difference;speaker squares;");
        TwoSlips y = Due.told("numbers 1 to 60;speaker odd;speaker digit;speaker nothing;");
        for (int i = 0; i < pairs.length; i++) {
            int w = x.pair(pairs[i][0], pairs[i][1]);
            for (int sight = 0; sight < 9; sight++) {
                int asked = sight;
                Due.is("sight " + sight + " of " + pairs[i][0] + ", " + pairs[i][1], slips[i][sight],
                    () -> asked < 6 ? x.told(asked, w) : y.told(asked - 6, w));
            }
        }

        Doc.says("worlds", "LIKE to him are WORLDS with the same SLIP.");
        TwoSlips four = Due.told("numbers 1 to 4;speaker sum;speaker product;speaker greater;speaker less;speaker difference;speaker digit;");
        // Of 2 and 2: sums of 4, products of 4, 2 as the greater, as the less, differences of 0, digits of 4.
        int[] heaps = {2, 2, 2, 3, 4, 2};
        for (int s = 0; s < heaps.length; s++) {
            int asked = s;
            Due.is("like 2 and 2 to speaker " + s, heaps[s], () -> four.heap(asked, 4, 0));
        }
        for (String sight : new String[] {"sum", "product", "greater", "less", "difference", "squares", "odd", "digit", "nothing"}) {
            likeOnes(Due.told("numbers 1 to 60;speaker " + sight + ";say 0 knows 0;"), sight);
        }
        TwoSlips others = Due.told("numbers 1 to 9;speaker squares;speaker odd;speaker nothing;speaker digit;");
        Due.is("1 and 7 has the squares of 5 and 5", 2, () -> others.heap(0, others.pair(5, 5), 0));
        Due.is("odd sums", 20, () -> others.heap(1, others.pair(4, 5), 0));
        Due.is("nothing", 45, () -> others.heap(2, others.pair(4, 5), 0));
        Due.is("sums of 2 and 12", 5, () -> others.heap(3, others.pair(1, 1), 0));
    }

    /** Of all 1830 worlds: which have a slip of their own. */
    private static void likeOnes(TwoSlips x, String sight) {
        int[] met = new int[7201];
        int own = 0;
        for (int w = 0; w < 1830; w++) {
            met[x.told(0, w)]++;
        }
        for (int w = 0; w < 1830; w++) {
            own += met[x.told(0, w)] == 1 ? 1 : 0;
        }
        int alone = own;
        Due.is("worlds with a " + sight + " of their own", alone, () -> x.knowing(0, 0));
        Due.is("where he knows the " + sight, alone, () -> x.left(1));
        Due.is("like the last one", met[x.told(0, 1829)], () -> x.heap(0, 1829, 0));
    }

    private static void plainFacts() {
        Doc.says("worlds", "even: the sum is;");
        isSo(FOUR + "say 0 even;", 0, "024679");

        Doc.says("worlds", "same: x is y;");
        isSo(FOUR + "say 0 same;", 0, "0479");
        isSo("numbers 1 to 3;unlike;speaker sum;say 0 same;", 0, "");

        Doc.says("worlds", "above M: the sum is above M;");
        isSo(FOUR + "say 0 above 0;", 0, "0123456789");
        isSo(FOUR + "say 0 above 1;", 0, "0123456789");
        isSo(FOUR + "say 0 above 2;", 0, "123456789");
        isSo(FOUR + "say 0 above 7;", 0, "9");
        isSo(FOUR + "say 0 above 8;", 0, "");
        isSo("numbers 59 to 60;speaker sum;say 0 above 119;", 0, "2");
        isSo("numbers 59 to 60;speaker sum;say 0 above 120;", 0, "");

        Doc.says("worlds", "not, and, or as they are.");
        isSo(FOUR + "say 0 not even;", 0, "1358");
        isSo(FOUR + "say 0 even and same;", 0, "0479");
        isSo(FOUR + "say 0 even and not same;", 0, "26");
        isSo(FOUR + "say 0 same or above 6;", 0, "04789");
        isSo(FOUR + "say 0 not not not even;", 0, "1358");
        isSo(FOUR + "say 0 not (even or above 5);", 0, "135");
    }

    private static void knowsAndSees() {
        Doc.says("worlds", "A SAYING is SO in a WORLD behind so many TURNS: knows N: no other WORLD that is LEFT then is LIKE to SPEAKER N;");
        isSo(FOUR + "say 0 knows 0;", 0, "0189");
        isSo(FOUR + "say 0 knows 1;", 0, "01256789");
        // Behind the turn 3 (1,4) and 4 (2,2) are left: in 2 (1,3) there is another one of the same sum, in 5 (2,3) likewise,
        // in 3 and 4 none but themselves, elsewhere none at all.
        isSo(FOUR + SHY + "say 0 knows 0;", 1, "01346789");
        isSo(FOUR + SHY + "say 0 knows 1;", 1, "01256789");
        isSo("numbers 1 to 4;speaker sum;say 0 above 8;say 0 knows 0;", 1, "0123456789");
        isSo("numbers 7 to 7;speaker nothing;say 0 knows 0;", 0, "0");
        isSo("numbers 1 to 2;speaker nothing;say 0 knows 0;", 0, "");

        Doc.says("worlds", "sees N ( S ): S is SO in all WORLDS that are LEFT then and LIKE to him;");
        isSo(FOUR + "say 0 sees 1(even);", 0, "02679");
        isSo(FOUR + "say 0 sees 0(sees 1(even));", 0, "0679");
        // Only even sums are left: of the product 4 just 2 and 2, of 2, 6 and 12 nothing.
        isSo(FOUR + "say 0 even;say 0 sees 1(even);", 1, "0123456789");
        isSo(FOUR + "say 0 even;say 0 sees 1(same);", 1, "01345789");
        isSo(FOUR + "say 0 even;say 0 sees 1(not even);", 1, "158");
        isSo("numbers 1 to 3;speaker nothing;say 0 sees 0(above 1);", 0, "012345");
        isSo("numbers 1 to 3;speaker nothing;say 0 sees 0(above 2);", 0, "");
    }

    private static void was() {
        Doc.says("worlds", "was M ( S ): S is SO behind M TURNS (not more than there were);");
        isSo(FOUR + SHY + "say 0 was 0(knows 0);", 1, "0189");
        isSo(FOUR + SHY + "say 0 was 1(knows 0);", 1, "01346789");
        isSo(FOUR + SHY + "say 0 was 2(knows 0);", 1, "01346789");
        isSo(FOUR + SHY + "say 0 was 20(knows 0);", 1, "01346789");
        isSo(FOUR + "say 0 was 0(knows 0);", 0, "0189");
        isSo(FOUR + "say 0 was 1(knows 0);" + SHY, 0, "0189");
        isSo(FOUR + "say 0 was 20(knows 0);" + SHY, 0, "0189");
        isSo(FOUR + SHY + "say 0 was 0(was 1(knows 0));", 1, "0189");
        isSo(FOUR + SHY + "say 0 was 1(was 0(knows 0));", 1, "0189");
        isSo(FOUR + SHY + "say 0 was 0(knows 0) or knows 0 and not same;", 1, "013689");
        // Three turns, the second of which leaves the even sums of what is above 3.
        String three = FOUR + "say 0 above 3;say 0 even;say 0 above 4;";
        isSo(three + "say 0 was 0(knows 0);", 3, "0189");
        isSo(three + "say 0 was 1(sees 1(not same));", 3, "012568");
        isSo(three + "say 0 was 2(sees 1(not same));", 3, "012568");
        isSo(three + "say 0 was 3(sees 1(not same));", 3, "01234568");
    }

    private static void deaf() {
        String three = "numbers 1 to 4;speaker sum;speaker product;speaker sum deaf;speaker nothing deaf;speaker nothing;";
        Doc.says("worlds", "For who is DEAF, knows and sees go by all WORLDS behind 0 TURNS");
        isSo(three + SHY + "say 0 knows 2;", 1, "0189");
        isSo(three + SHY + "say 0 knows 3;", 1, "");
        isSo(three + "say 0 above 7;say 0 knows 4;", 1, "9");
        isSo(three + "say 0 above 7;say 0 knows 3;", 1, "");
        isSo(three + "say 0 even;say 0 sees 4(even);", 1, "0123456789");
        isSo(three + "say 0 even;say 0 sees 3(even);", 1, "");
        isSo(three + "say 0 above 8;say 0 sees 2(even);", 1, "024679");

        Doc.says("worlds", "(S of sees, too, is asked behind 0).");
        isSo(three + SHY + "say 0 sees 2(not knows 0);", 1, "234567");
        isSo(three + SHY + "say 0 sees 0(not knows 0);", 1, "016789");
        isSo(three + SHY + "say 0 sees 2(was 1(not knows 0));", 1, "234567");
        isSo(three + SHY + "say 0 sees 2(sees 0(not knows 0));", 1, "234567");
    }

    private static void mayBeSaid() {
        Doc.says("worlds", "A SPEAKER MAY say S in a WORLD, if S is SO in all WORLDS that are LEFT and LIKE to him");
        maySay(FOUR + "say 0 not same;", 0, "1358");
        maySay(FOUR + "say 1 not same;", 0, "12568");
        maySay(FOUR + "say 0 even;say 1 not same;", 1, "12568");
        maySay(FOUR + "say 0 even;say 1 same;", 1, "01345789");
        maySay(FOUR + "say 0 above 8;say 1 above 120;", 1, "0123456789");
        maySay(FOUR + "say 0 above 8;", 0, "");

        Doc.says("worlds", "(DEAF: as sees);");
        String deaf = "numbers 1 to 4;speaker sum;speaker product;speaker sum deaf;";
        maySay(deaf + SHY + "say 2 not knows 0;", 1, "234567");
        maySay(deaf + SHY + "say 0 not knows 0;", 1, "016789");
        maySay(deaf + "say 0 not even;say 2 even;", 1, "024679");
        maySay(deaf + "say 0 not even;say 0 even;", 1, "024679");
        maySay(deaf + "say 0 above 8;say 2 even;", 1, "024679");
        maySay(deaf + "say 0 above 8;say 0 even;", 1, "0123456789");

        Doc.says("worlds", "a LIAR, if not.");
        String liar = "numbers 1 to 4;speaker sum;speaker sum liar;speaker product liar;speaker sum liar deaf;";
        maySay(liar + "say 1 not same;", 0, "024679");
        maySay(liar + "say 2 not same;", 0, "03479");
        maySay(liar + "say 1 above 0;", 0, "");
        maySay(liar + "say 1 above 8;", 0, "0123456789");
        // Where nothing like is left all is sure, so a liar may say nothing.
        maySay(liar + "say 0 above 7;say 1 above 8;", 1, "9");
        maySay(liar + "say 0 above 7;say 3 above 8;", 1, "0123456789");
    }

    private static void left() {
        Doc.says("worlds", "LEFT behind 0 TURNS are all WORLDS.");
        leaves(FOUR, 0, "0123456789");
        leaves(FOUR + "say 0 above 9;", 0, "0123456789");
        leaves("numbers 3 to 3;unlike;", 0, "");

        Doc.says("worlds", "LEFT behind a TURN: those of LEFT in which its SPEAKER MAY say what is said.");
        leaves(FOUR + SHY, 1, "34");
        leaves(FOUR + SHY + "say 0 knows 0;", 2, "34");
        leaves(FOUR + "say 0 not same;", 1, "1358");
        // What is struck doesn't come back, though it might be said there.
        leaves(FOUR + "say 0 not same;say 0 above 0;", 2, "1358");
        leaves(FOUR + "say 0 above 8;say 0 above 0;", 2, "");
        leaves("numbers 1 to 4;speaker sum liar;speaker product;say 0 not same;", 1, "024679");
        leaves("numbers 1 to 4;speaker sum;speaker sum deaf;say 0 not even;say 1 above 5;", 2, "8");
        leaves("numbers 1 to 4;speaker sum;speaker sum liar deaf;say 0 not even;say 1 above 5;", 2, "135");
    }

    private static void answers() {
        Doc.says("worlds", "ANSWERS: a SPEAKER says whether he KNOWS (as knows, DEAF and LIARS aside):"
            + " LEFT are then those in which he does, or does not.");
        TwoSlips plain = Due.told(FOUR);
        TwoSlips odd = Due.told("numbers 1 to 4;speaker sum liar;speaker product liar deaf;");
        long[][] rows = {{0}, {1}, {2}, {3}, {2, 1}, {2, 0}, {0, 2}, {0, 3}, {3, 0}, {3, 0, 2}, {3, 0, 3}};
        int[] left = {6, 4, 2, 8, 2, 0, 2, 4, 2, 0, 2};
        for (int i = 0; i < rows.length; i++) {
            for (TwoSlips x : new TwoSlips[] {plain, odd}) {
                x.tray(0, 0, rows[i].length);
                for (int k = 0; k < rows[i].length; k++) {
                    x.write(0, k, rows[i][k]);
                }
                Due.is("row " + i + (x == odd ? " of liars and deaf ones" : ""), left[i], () -> x.answers(0, 0));
            }
        }
        Due.is("a mute talk", plain.rest(1, 0), () -> odd.rest(1, 0));
        Due.is("a mute talk's turns", plain.longest(1, 0, 0), () -> odd.longest(1, 0, 0));
        Due.is("soonest", plain.soonest(3, 1, 0, NONE), () -> odd.soonest(3, 1, 0, NONE));
        Due.is("shortest", plain.shortest(4, 10), () -> odd.shortest(4, 10));
    }
}
