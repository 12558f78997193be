/** The terms of a TEXT: its LINES, its TOKENS, its FAULTS and their places. */
final class TextSentences {
    private static final int NONE = TwoSlips.NONE;
    private static final String[] SIGHTS =
        {"sum", "product", "greater", "less", "difference", "squares", "odd", "digit", "nothing"};
    private static final String ONE = "speaker sum;";
    // What a saying begins behind, 18 signs long.
    private static final String SAY = ONE + "say 0 ";
    // 0 (1,1) 1 (1,2) 2 (1,3) 3 (1,4) 4 (2,2) 5 (2,3) 6 (2,4) 7 (3,3) 8 (3,4) 9 (4,4).
    private static final String FOUR = "numbers 1 to 4;speaker sum;say 0 ";

    private TextSentences() {
    }

    static void hold() {
        wholeTexts();
        lines();
        numbersAndMost();
        speakersAndTurns();
        sayings();
        tokens();
        faults();
        deepOnes();
    }

    private static void taken(String text, int lines) {
        TwoSlips x = new TwoSlips();
        Due.is("talk of " + text, lines, () -> Due.tell(x, text));
        Due.is("fault(0) of " + text, 0, () -> x.fault(0));
        Due.is("fault(1) of " + text, NONE, () -> x.fault(1));
    }

    private static void faulty(String text, int kind, int place) {
        TwoSlips x = new TwoSlips();
        Due.is("talk of " + text, -10 - kind, () -> Due.tell(x, text));
        Due.is("fault(0) of " + text, kind, () -> x.fault(0));
        Due.is("fault(1) of " + text, place, () -> x.fault(1));
    }

    /** For which worlds of FOUR a saying is so. */
    private static void so(String saying, String worlds) {
        TwoSlips x = Due.told(FOUR + saying + ";");
        Due.is(saying + " is so in", worlds, () -> {
            StringBuilder all = new StringBuilder();
            for (int w = 0; w < 10; w++) {
                all.append(x.so(0, w) ? "" + w : "");
            }
            return all;
        });
    }

    private static void wholeTexts() {
        Doc.says("text", "A TALK is a TEXT of at most 900 bytes");
        taken("unlike;" + " ".repeat(893), 1);
        taken("unlike" + " ".repeat(893) + ";", 1);
        taken("unlike;".repeat(128) + "    ", 128);
        faulty("unlike" + " ".repeat(894), 2, 900);
        faulty("unlike;" + " ".repeat(892) + "$", 1, 899);
        faulty("unlike;" + "\n".repeat(892) + "u", 2, 899);
        TwoSlips x = new TwoSlips();
        Due.feed(x, " ".repeat(900));
        Due.is("a twenty more", NONE, () -> x.feed(0, 0, 0, 0, 0));
        Due.illegal("talk(901)", () -> x.talk(901));
        Due.is("talk(900)", 0, () -> x.talk(900));

        Doc.says("text", "(without one: numbers 2 to 20, no SPEAKERS)");
        int[] counts = {0, 2, 20, 120, 0, 0, 0, 190};
        TwoSlips empty = Due.told("numbers 3 to 4;most 7;unlike;speaker sum;say 0 even;");
        Due.is("an empty text", 0, () -> Due.tell(empty, ""));
        for (int what = 0; what < counts.length; what++) {
            int asked = what;
            Due.is("count(" + what + ") at first", counts[what], () -> new TwoSlips().count(asked));
            Due.is("count(" + what + ") of an empty text", counts[what], () -> empty.count(asked));
        }
        Due.is("world 0", 2, () -> new TwoSlips().world(0, 1));
        Due.is("world 189", 20, () -> new TwoSlips().world(189, 0));
        Due.noSuch("world 190", () -> new TwoSlips().world(190, 0));
        Due.noSuch("speaker 0", () -> new TwoSlips().speaker(0, 0));

        Doc.says("text", "{ LINE ; }");
        taken("", 0);
        taken(" ", 0);
        taken("\n", 0);
        taken("unlike;", 1);
        taken("unlike ; unlike ;", 2);
        faulty("unlike", 2, 6);
        faulty("unlike;unlike", 2, 13);
        faulty(";", 2, 0);
        faulty("unlike;;", 2, 7);
        faulty("unlike unlike;", 2, 7);
    }

    private static void lines() {
        Doc.says("text", "LINE: numbers N to N | most N | unlike | speaker SIGHT [ liar ] [ deaf ] | say N SAYING.");
        taken("numbers 3 to 5;", 1);
        taken("most 9;", 1);
        taken("unlike;", 1);
        taken("speaker sum;", 1);
        taken("speaker sum liar;", 1);
        taken("speaker sum deaf;", 1);
        taken("speaker sum liar deaf;", 1);
        taken("speaker sum;say 0 even;", 2);
        faulty("speaker sum deaf liar;", 2, 17);
        faulty("speaker sum liar liar;", 2, 17);
        faulty("speaker sum deaf deaf;", 2, 17);
        faulty("speaker sum liar deaf liar;", 2, 22);
        faulty("speaker;", 2, 7);
        faulty("speaker liar;", 2, 8);
        faulty("speaker 0;", 2, 8);
        faulty("numbers;", 2, 7);
        faulty("numbers to 5;", 2, 8);
        faulty("numbers 3;", 2, 9);
        faulty("numbers 3 5;", 2, 10);
        faulty("numbers 3 to;", 2, 12);
        faulty("numbers 3 to 5 6;", 2, 15);
        faulty("most;", 2, 4);
        faulty("most to 3;", 2, 5);
        faulty("most 3 3;", 2, 7);
        faulty("unlike 3;", 2, 7);
        faulty(ONE + "say;", 2, 15);
        faulty(ONE + "say even;", 2, 16);
        faulty(ONE + "say 0;", 2, 17);
        faulty(ONE + "say 0 0;", 2, 18);
        for (String word : new String[] {"to 3", "liar", "deaf", "sum", "even", "knows 0", "not", "and", "line", "(unlike)", "3"}) {
            faulty(word + ";", 2, 0);
        }
    }

    private static void numbersAndMost() {
        Doc.says("text", "numbers: from 1 to 60 (the second not below the first);");
        taken("numbers 1 to 60;", 1);
        taken("numbers 1 to 1;", 1);
        taken("numbers 60 to 60;", 1);
        taken("numbers 7 to 7;", 1);
        faulty("numbers 0 to 5;", 3, 8);
        faulty("numbers 61 to 61;", 3, 8);
        faulty("numbers 999 to 2;", 3, 8);
        faulty("numbers 1 to 61;", 3, 13);
        faulty("numbers 1 to 0;", 3, 13);
        faulty("numbers 7 to 6;", 3, 13);
        faulty("numbers 60 to 59;", 3, 14);
        TwoSlips x = Due.told("numbers 1 to 60;");
        Due.is("worlds", 1830, () -> x.count(7));
        Due.is("the last", 60, () -> x.world(1829, 0));
        Due.is("one world", 1, () -> Due.told("numbers 60 to 60;").count(7));

        Doc.says("text", "most: 2 to 120 (120 without);");
        taken("most 2;", 1);
        taken("most 120;", 1);
        faulty("most 0;", 3, 5);
        faulty("most 1;", 3, 5);
        faulty("most 121;", 3, 5);
        faulty("most 999;", 3, 5);
        Due.is("without", 120, () -> Due.told("numbers 1 to 60;").count(3));
        Due.is("1 and 1 alone", 1, () -> Due.told("numbers 1 to 60;most 2;").count(7));
        Due.is("all but 60 and 60", 1829, () -> Due.told("numbers 1 to 60;most 119;").count(7));
        Due.is("all", 1830, () -> Due.told("numbers 1 to 60;most 120;").count(7));

        Doc.says("text", "the later ones of these strike.");
        TwoSlips later = Due.told("numbers 30 to 40;most 5;speaker sum;say 0 above 3;numbers 1 to 3;most 7;numbers 2 to 4;most 6;");
        int[] counts = {8, 2, 4, 6, 0, 1, 1, 4};
        for (int what = 0; what < counts.length; what++) {
            int asked = what;
            Due.is("count(" + what + ")", counts[what], () -> later.count(asked));
        }
        Due.is("the turn goes by the later ones", 4, () -> later.left(1));
        faulty("numbers 1 to 9;numbers 5 to 4;", 3, 28);
    }

    private static void speakersAndTurns() {
        Doc.says("text", "SIGHT: sum | product | greater | less | difference | squares | odd | digit | nothing.");
        for (int sight = 0; sight < SIGHTS.length; sight++) {
            int asked = sight;
            Due.is(SIGHTS[sight], sight, () -> Due.told("speaker " + SIGHTS[asked] + ";").speaker(0, 0));
        }
        for (String other : new String[] {"su", "sums", "even", "same", "speaker", "nothin", "nothingg", "a", "liar", "deaf", "(", "8"}) {
            faulty("speaker " + other + ";", 2, 8);
        }

        Doc.says("text", "SPEAKERS are numbered from 0 on as they come, 6 at most;");
        TwoSlips six = Due.told("speaker odd;speaker less;say 1 even;speaker sum;speaker digit;speaker less;speaker nothing;");
        int[] sights = {6, 3, 0, 7, 3, 8};
        for (int s = 0; s < sights.length; s++) {
            int asked = s;
            Due.is("sight of " + s, sights[s], () -> six.speaker(asked, 0));
        }
        Due.is("six", 6, () -> six.count(5));
        taken(ONE.repeat(6), 6);
        faulty(ONE.repeat(7), 4, 72);

        Doc.says("text", "say: a SPEAKER that was told ahead;");
        taken(SAY + "even;", 2);
        taken(ONE.repeat(6) + "say 5 even;", 7);
        faulty("say 0 even;", 3, 4);
        faulty("say 0 even;" + ONE, 3, 4);
        faulty(ONE + "say 1 even;", 3, 16);
        faulty(ONE + "say 1 even;" + ONE, 3, 16);
        faulty(ONE.repeat(6) + "say 6 even;", 3, 76);
        faulty(ONE + "say 999 even;", 3, 16);

        Doc.says("text", "TURNS are numbered likewise, 20 at most.");
        String turns = "say 0 even;say 1 same;".repeat(10);
        TwoSlips twenty = Due.told(ONE + ONE + turns);
        Due.is("twenty", 20, () -> twenty.count(6));
        for (int t = 0; t < 20; t++) {
            int asked = t;
            Due.is("turn " + t, t % 2, () -> twenty.turn(asked));
        }
        faulty(ONE + ONE + turns + "say 0 even;", 4, 244);
        faulty(ONE + ONE + turns + "most 9;" + ONE + "say 2 even;", 4, 263);
    }

    private static void sayings() {
        Doc.says("text", "SAYING: PART { or PART }. PART: FACT { and FACT }.");
        so("even or same", "024679");
        so("same or even and above 5", "04679");
        so("even and above 5 or same", "04679");
        so("above 7 or same or above 6 and not even", "04789");
        so("even and same and above 4 and above 6", "9");
        so("not even or same and above 5 or above 7", "135789");
        faulty(SAY + "even or;", 2, 25);
        faulty(SAY + "even and;", 2, 26);
        faulty(SAY + "or even;", 2, 18);
        faulty(SAY + "and even;", 2, 18);
        faulty(SAY + "even or or same;", 2, 26);
        faulty(SAY + "even and or same;", 2, 27);
        faulty(SAY + "even same;", 2, 23);
        faulty(SAY + "even not same;", 2, 23);

        Doc.says("text",
            "FACT: not FACT | ( SAYING ) | knows N | sees N ( SAYING ) | was N ( SAYING ) | even | same | above N.");
        so("not even", "1358");
        so("not same and even", "26");
        so("not same or even", "0123456789");
        so("(same or even) and above 5", "679");
        so("not (same and even)", "123568");
        so("not not same", "0479");
        so("knows 0", "0189");
        so("sees 0 (not same)", "1358");
        so("was 0 (above 6)", "89");
        so("even", "024679");
        so("same", "0479");
        so("above 6", "89");
        for (String part : new String[] {"not", "(", "knows", "sees", "sees 0", "sees 0 (", "sees 0 (even", "was", "was 3", "was 3 (",
            "was 3 (even", "above", "(even", "even and", "not (", "not not"}) {
            faulty(SAY + part + ";", 2, 18 + part.length());
            faulty(SAY + part, 2, 18 + part.length());
        }
        faulty(SAY + "();", 2, 19);
        faulty(SAY + "even);", 2, 22);
        faulty(SAY + "not and even;", 2, 22);
        faulty(SAY + "knows (0);", 2, 24);
        faulty(SAY + "sees (even);", 2, 23);
        faulty(SAY + "sees 0 even;", 2, 25);
        faulty(SAY + "was 0 not even;", 2, 24);
        faulty(SAY + "above even;", 2, 24);
        faulty(SAY + "even 0;", 2, 23);
        faulty(SAY + "0;", 2, 18);
        faulty(SAY + "odd;", 2, 18);

        Doc.says("text", "(N of knows, sees: a SPEAKER told ahead; of was: 0 to 20; of above: 0 to 120.)");
        taken(SAY + "knows 0;", 2);
        taken(SAY + "sees 0(even);", 2);
        taken(ONE.repeat(6) + "say 0 knows 5 or sees 5(even);", 7);
        faulty(SAY + "knows 1;", 3, 24);
        faulty(SAY + "knows 1;" + ONE, 3, 24);
        faulty(SAY + "sees 1(even);", 3, 23);
        faulty(SAY + "sees 1(even);" + ONE, 3, 23);
        faulty(ONE.repeat(6) + "say 0 knows 6;", 3, 84);
        faulty(ONE.repeat(6) + "say 0 sees 6(even);", 3, 83);
        taken(SAY + "was 0(even);", 2);
        taken(SAY + "was 20(even);", 2);
        faulty(SAY + "was 21(even);", 3, 22);
        faulty(SAY + "was 999(even);", 3, 22);
        taken(SAY + "above 0;", 2);
        taken(SAY + "above 120;", 2);
        faulty(SAY + "above 121;", 3, 24);
        faulty(SAY + "above 999;", 3, 24);
    }

    private static void tokens() {
        Doc.says("text", "TOKENS, as long as they go, between them blanks (10, 32):");
        taken("numbers1to4;speaker\nsum;say0sees0(knows0)and above007or even;", 3);
        taken("\n \nunlike\n;\n ", 1);
        faulty("un like;", 2, 0);
        faulty("unlikeunlike;", 2, 0);
        faulty("numbers 1 to4 0;", 2, 14);
        faulty("numbers 1to 4to;", 2, 13);
        faulty("numbers 1 t o 4;", 2, 10);
        faulty(SAY + "even orsame;", 2, 23);
        faulty(SAY + "notnot even;", 2, 18);
        for (int c = 0; c < 256; c++) {
            boolean blank = c == 10 || c == 32;
            boolean token = c >= 'a' && c <= 'z' || c >= '0' && c <= '9' || c == ';' || c == '(' || c == ')';
            if (blank || c == ';') {
                taken("unlike " + (char) c + (blank ? ";" : ""), 1);
            } else {
                faulty("unlike " + (char) c, token ? 2 : 1, 7);
            }
        }

        wordByWord();

        Doc.says("text", "words (small letters), N (1 to 3 digits), the signs ; ( ).");
        faulty("Unlike;", 1, 0);
        faulty("unlikE;", 2, 0);
        faulty(SAY + "evEn;", 2, 18);
        taken("most 9;most 09;most 009;", 3);
        taken(SAY + "above 0 or above 00 or above 000;", 2);
        Due.is("zeros ahead count for nothing", 9, () -> Due.told("most 009;").count(3));
        Due.is("three digits", 119, () -> Due.told("most 119;").count(3));
        Due.is("digits are ten", 36, () -> Due.told("numbers 24 to 56;most 78;most 90;numbers 13 to 36;").count(2));
        faulty("most 0009;", 1, 5);
        faulty("most 9999;", 1, 5);
        taken(SAY + "(even)and(same);", 2);
        faulty("unlike:", 1, 6);
        faulty(SAY + "[even];", 1, 18);
        faulty("most -9;", 1, 5);
        faulty("most +9;", 1, 5);
        faulty("most 9.;", 1, 6);
    }

    /** No word stands for another one that is like it but for a letter. */
    private static void wordByWord() {
        String[][] lines = {{"", "numbers", " 1 to 4;"}, {"numbers 1 ", "to", " 4;"}, {"", "most", " 9;"}, {"", "unlike", ";"},
            {"", "speaker", " sum;"}, {"speaker sum ", "liar", ";"}, {"speaker sum ", "deaf", ";"}, {ONE, "say", " 0 even;"},
            {SAY, "not", " even;"}, {SAY + "even ", "and", " same;"}, {SAY + "even ", "or", " same;"}, {SAY, "knows", " 0;"},
            {SAY, "sees", " 0(even);"}, {SAY, "was", " 0(even);"}, {SAY, "even", ";"}, {SAY, "same", ";"}, {SAY, "above", " 9;"}};
        for (String[] line : lines) {
            sameWord(line[0], line[1], line[2]);
        }
        for (String sight : SIGHTS) {
            sameWord("speaker ", sight, ";");
        }
    }

    private static void sameWord(String ahead, String word, String behind) {
        Due.is(ahead + word + behind, true, () -> Due.tell(new TwoSlips(), ahead + word + behind) > 0);
        for (int i = 0; i < word.length(); i++) {
            faulty(ahead + word.substring(0, i) + "z" + word.substring(i + 1) + behind, 2, ahead.length());
        }
        faulty(ahead + word + "z" + behind, 2, ahead.length());
        faulty(ahead + word.substring(1) + behind, 2, ahead.length());
        faulty(ahead + word.substring(0, word.length() - 1) + behind, 2, ahead.length());
    }

    private static void faults() {
        Doc.says("text", "FAULTS, the first along the text,");
        faulty("most 1;$", 3, 5);
        faulty("$ most 1;", 1, 0);
        faulty("unlike most 1;", 2, 7);
        faulty("most 121 most;", 3, 5);
        faulty("most 1 2000;", 3, 5);
        faulty("most 2 2000;", 1, 7);
        faulty(ONE.repeat(7) + "$", 4, 72);
        faulty(SAY + "knows 1 (((((((((", 3, 24);
        faulty(SAY + "(((((((((knows 1", 5, 26);
        faulty("numbers 0 to 0;", 3, 8);

        Doc.says("text", "of one TOKEN the least kind:");
        faulty("unlike 1000;", 1, 7);
        faulty("most 1000;", 1, 5);
        faulty("unlike 999;", 2, 7);
        faulty("numbers to 999;", 2, 8);
        faulty(ONE.repeat(6) + "most speaker;", 2, 77);
        faulty(ONE.repeat(6) + "unlike speaker sum;", 2, 79);
        faulty(ONE + "say 0 even;".repeat(20) + "unlike say 0 even;", 2, 239);
        faulty(SAY + "((((((((even(", 2, 30);
        faulty(SAY + "((((((((even not", 2, 31);
        faulty(SAY + "((((((((above(", 2, 31);
        faulty(SAY + "((((((((sees not", 2, 31);

        Doc.says("text", "1 no TOKEN begins so (4 digits and more: at their first).");
        faulty("$", 1, 0);
        faulty("unlike;  " + (char) 0, 1, 9);
        faulty("unlike" + (char) 255 + ";", 1, 6);
        faulty("most 1000;", 1, 5);
        faulty("most 0000;", 1, 5);
        faulty("most 12345678901234567890;", 1, 5);
        faulty("most 4294967298;", 1, 5);
        faulty("12345", 1, 0);
        faulty("\t", 1, 0);
        faulty("\r\n", 1, 0);

        Doc.says("text", "2 it can't stand there (the end: the text's length).");
        faulty("most", 2, 4);
        faulty("most  ", 2, 6);
        faulty("most\n 9 \n", 2, 9);
        faulty("numbers 1 to", 2, 12);
        faulty("speaker ", 2, 8);
        faulty(SAY, 2, 18);
        faulty("to", 2, 0);
        TwoSlips cut = new TwoSlips();
        Due.feed(cut, "unlike;most 119;");
        Due.is("the text ends with n", -12, () -> cut.talk(11));
        Due.is("its length is n", 11, () -> cut.fault(1));
        Due.feed(cut, "unlike;most 1190;");
        Due.is("a fourth digit behind n", -12, () -> cut.talk(15));
        Due.is("its length is n", 15, () -> cut.fault(1));

        Doc.says("text", "3 N is out of its bounds.");
        faulty("numbers 61 to 70;", 3, 8);
        faulty("numbers 60 to 9;", 3, 14);
        faulty("most 121", 3, 5);
        faulty("say 0", 3, 4);
        faulty(SAY + "was 21", 3, 22);

        Doc.says("text", "4 the first TOKEN of a 7th SPEAKER, of a 21st TURN.");
        faulty(ONE.repeat(6) + "speaker", 4, 72);
        faulty(ONE.repeat(6) + "speaker sun liar", 4, 72);
        faulty(ONE.repeat(6) + "say 0 even; \n speaker sum;", 4, 86);
        String turns = ONE + "say 0 even;".repeat(20);
        taken(turns, 21);
        faulty(turns + "say", 4, 232);
        faulty(turns + "say 9 even;", 4, 232);
        faulty(turns + ONE + "unlike;say 1 even;", 4, 251);
    }

    private static void deepOnes() {
        Doc.says("text", "5 the 9th of not, ( that are open around one another.");
        String even = "even;";
        taken(SAY + "not ".repeat(8) + even, 2);
        faulty(SAY + "not ".repeat(9) + even, 5, 50);
        taken(SAY + "(".repeat(8) + "even" + ")".repeat(8) + ";", 2);
        faulty(SAY + "(".repeat(9) + "even" + ")".repeat(9) + ";", 5, 26);
        faulty(SAY + "(".repeat(8) + "not even" + ")".repeat(8) + ";", 5, 26);
        faulty(SAY + "not ".repeat(8) + "(even);", 5, 50);
        taken(SAY + "not (".repeat(4) + "even" + ")".repeat(4) + ";", 2);
        faulty(SAY + "not (".repeat(4) + "not even" + ")".repeat(4) + ";", 5, 38);
        taken(SAY + "sees 0(".repeat(8) + "even" + ")".repeat(8) + ";", 2);
        faulty(SAY + "sees 0(".repeat(9) + "even" + ")".repeat(9) + ";", 5, 80);
        taken(SAY + "was 1(".repeat(8) + "even" + ")".repeat(8) + ";", 2);
        faulty(SAY + "was 1(".repeat(9) + "even" + ")".repeat(9) + ";", 5, 71);
        // Those that are closed, or side by side, are not open around one another.
        taken(SAY + "not even and ".repeat(9) + even, 2);
        taken(SAY + "(even) or ".repeat(9) + even, 2);
        taken(SAY + "(even and " + "not ".repeat(7) + "same or " + "not ".repeat(7) + "even);", 2);
        faulty(SAY + "(even and " + "not ".repeat(7) + "same or " + "not ".repeat(8) + "even);", 5, 92);
        taken(SAY + "not ".repeat(8) + "even and " + "(".repeat(8) + "even" + ")".repeat(8) + ";", 2);
        taken(SAY + "not ".repeat(8) + even + "say 0 " + "not ".repeat(8) + even, 3);
    }
}
