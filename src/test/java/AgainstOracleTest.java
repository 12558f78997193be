import java.lang.reflect.InvocationTargetException;
import java.lang.reflect.Method;
import java.util.ArrayList;
import java.util.List;
import java.util.Random;

/** Random talks, whole and spoilt, and random calls on them: TwoSlips must answer as the document told word by word. */
public final class AgainstOracleTest {
    private static final String[] SIGHTS =
        {"sum", "product", "greater", "less", "difference", "squares", "odd", "digit", "nothing"};
    private static final String[] STRAY = {"not", "(", ")", ";", "and", "or", "knows", "sees", "was", "even", "same", "above",
        "0", "1", "5", "20", "21", "60", "61", "120", "121", "999", "1000", "say", "speaker", "to", "numbers", "most", "unlike",
        "liar", "deaf", "sum", "sun", "A", "\t", "-", "\u00e9", "0007", "007"};
    // Name, then a letter for each argument.
    private static final String[] CALLS = {"fault i", "world wi", "pair nn", "told sw", "speaker si", "turn t", "left b", "leftAt bk",
        "isLeft bw", "only", "so tw", "so tw", "may tw", "may tw", "judge w", "judge w", "knows swb", "knowing sb", "heap swb",
        "strikes i", "ends nn", "rest ss", "when ssw", "longest ssi", "soonest wmmk", "shortest ci", "shortest c1", "shortest cj",
        "liar s", "which", "orders wk", "orders wk", "mended i", "answers ri", "answers ri", "tray rio", "write rov", "write rov",
        "pour r", "image g", "restore g", "count 9"};

    private final Random random;
    private final TwoSlips got = new TwoSlips();
    private final Oracle want = new Oracle();
    private final List<String> log = new ArrayList<>();
    private int wrong;
    private int speakers;
    private int turns;
    private int worlds;

    private AgainstOracleTest(long seed) {
        random = new Random(seed);
    }

    private static Object outcome(Object on, String name, Object[] args) {
        for (Method m : on.getClass().getMethods()) {
            if (m.getName().equals(name) && m.getDeclaringClass() == on.getClass()) {
                try {
                    return String.valueOf(m.invoke(on, args));
                } catch (InvocationTargetException e) {
                    return "throws." + e.getCause().getClass().getSimpleName();
                } catch (IllegalAccessException e) {
                    return "no access";
                }
            }
        }
        return "no such method";
    }

    private String both(String name, Object... args) {
        String call = name + java.util.Arrays.toString(args);
        Object g = outcome(got, name, args);
        Object w = outcome(want, name, args);
        log.add(call + " -> " + g);
        if (!g.equals(w)) {
            wrong++;
            System.out.println(call + " answered " + g + ", due is " + w + "\n  after " + log);
        }
        return String.valueOf(w);
    }

    private int below(int n) {
        return random.nextInt(n);
    }

    private String blank() {
        return below(8) == 0 ? (below(2) == 0 ? "\n" : "  \n ") : " ";
    }

    private String fact(int depth, int told) {
        int kind = below(depth > 0 ? 16 : 8);
        switch (kind) {
            case 0:
                return "even";
            case 1:
                return "same";
            case 2:
                return "above" + blank() + below(below(4) == 0 ? 121 : 24);
            case 8:
            case 9:
                return "not" + blank() + fact(depth - 1, told);
            case 10:
                return "(" + saying(depth - 1, told) + ")";
            case 11:
            case 12:
            case 13:
                return "sees" + blank() + below(told) + (below(2) == 0 ? "" : blank()) + "(" + saying(depth - 1, told) + ")";
            case 14:
            case 15:
                return "was" + blank() + below(below(3) == 0 ? 21 : 4) + "(" + saying(depth - 1, told) + " )";
            default:
                return "knows" + (below(9) == 0 ? "" : blank()) + below(told);
        }
    }

    private String saying(int depth, int told) {
        StringBuilder s = new StringBuilder(fact(depth, told));
        while (below(4) == 0) {
            s.append(below(2) == 0 ? " and " : " or ").append(fact(depth, told));
        }
        return s.toString();
    }

    private String text(int top, int mostSpeakers, int mostTurns, int depth) {
        StringBuilder s = new StringBuilder();
        int told = 0;
        int said = 0;
        int wantedSpeakers = below(8) == 0 ? below(mostSpeakers + 1) : 2 + below(mostSpeakers - 1);
        int wantedTurns = wantedSpeakers == 0 ? 0 : below(mostTurns + 1);
        if (below(12) != 0) {
            int from = 1 + below(below(4) == 0 ? top : 2);
            int to = below(4) == 0 ? from + below(top - from + 1) : Math.max(from, top - below(2));
            s.append("numbers ").append(from).append(" to ").append(to).append(";");
        }
        while (told < wantedSpeakers || said < wantedTurns) {
            int pick = below(20);
            if (pick == 0) {
                s.append("most ").append(2 + below(2 * top)).append(" ;");
            } else if (pick == 1) {
                s.append("unlike;");
            } else if (told < wantedSpeakers && (told == 0 || pick < 14 || said >= wantedTurns)) {
                s.append("speaker").append(blank()).append(SIGHTS[below(below(3) == 0 ? 2 : 9)])
                    .append(below(6) == 0 ? " liar" : "").append(below(6) == 0 ? " deaf" : "").append(";").append(below(3) == 0 ? blank() : "");
                told++;
            } else if (said < wantedTurns) {
                s.append("say ").append(below(told)).append(blank()).append(saying(below(depth + 1), told)).append(";");
                said++;
            }
        }
        return s.toString();
    }

    private String spoilt(String text) {
        int at = below(text.length() + 1);
        switch (below(5)) {
            case 0:
                return text.substring(0, at);
            case 1:
                return text.substring(0, at) + text.substring(Math.min(text.length(), at + 1 + below(6)));
            case 2:
                return text.substring(0, at) + STRAY[below(STRAY.length)] + text.substring(at);
            case 3:
                return text.substring(0, at) + " " + STRAY[below(STRAY.length)] + " " + text.substring(at);
            default:
                return text.substring(0, at) + "not ( not(".substring(below(5)).repeat(1 + below(3)) + text.substring(at);
        }
    }

    private void feedText(String text) {
        int[] five = new int[5];
        for (int i = 0; i < text.length(); i += 20) {
            for (int j = 0; j < 20; j++) {
                int c = i + j < text.length() ? text.charAt(i + j) & 255 : 32;
                five[j / 4] = five[j / 4] << 8 | c;
            }
            both("feed", five[0], five[1], five[2], five[3], five[4]);
        }
    }

    private void tell(String text) {
        log.clear();
        log.add("talk of: " + text);
        feedText(text);
        both("talk", Math.min(text.length(), 900));
        both("fault", 0);
        both("fault", 1);
        look();
    }

    private void look() {
        speakers = want.count(5);
        turns = want.count(6);
        worlds = want.count(7);
    }

    private int near(int n) {
        int pick = below(20);
        return pick == 0 ? -1 : pick == 1 ? n : pick == 2 ? Integer.MIN_VALUE : pick == 3 ? Integer.MAX_VALUE : n == 0 ? 0 : below(n);
    }

    private Object argument(char letter) {
        switch (letter) {
            case 'i':
                return below(20) == 0 ? below(9) - 4 : below(4);
            case 'w':
                return near(worlds);
            case 's':
                return near(speakers);
            case 't':
                return near(turns);
            case 'b':
                return near(turns + 1);
            case 'k':
                return below(8) - 2;
            case 'n':
                return below(10) == 0 ? near(61) : 1 + below(14);
            case 'm':
                return below(20) == 0 ? below(200) - 100 : below(1 << speakers) & below(1 << speakers);
            case 'c':
                return below(15) == 0 ? below(8) - 1 : 1 + below(4);
            case '1':
                return below(2);
            case 'j':
                return 9 + below(6);
            case 'r':
                return below(25) == 0 ? below(8) - 2 : below(4);
            case 'o':
                return below(10) == 0 ? below(60) - 5 : below(5);
            case 'v':
                return below(5) == 0 ? random.nextLong() : (long) below(2 * speakers + 2);
            case 'g':
                return below(10) == 0 ? below(7) - 2 : below(3);
            default:
                return below(12) - 1;
        }
    }

    /** The oracle tries out rows whole: not where these are too many. */
    private boolean isTooLong(String name) {
        switch (name) {
            case "soonest":
                return speakers > (worlds > 250 ? 2 : worlds > 15 ? 4 : 6);
            case "shortest":
                return speakers > (worlds > 250 ? 2 : worlds > 15 ? 3 : 6);
            case "orders":
                return turns < 7 && turns > (worlds > 250 ? 3 : worlds > 15 ? 5 : 6);
            default:
                return false;
        }
    }

    private void callSome(int many) {
        for (int i = 0; i < many; i++) {
            String[] call = CALLS[below(CALLS.length)].split(" ");
            Object[] args = new Object[call.length > 1 ? call[1].length() : 0];
            for (int a = 0; a < args.length; a++) {
                args[a] = argument(call[1].charAt(a));
            }
            if (isTooLong(call[0])) {
                continue;
            }
            both(call[0], args);
            if (call[0].equals("restore")) {
                look();
            }
        }
    }

    private void sweepWorlds() {
        for (int w = 0; w < worlds; w++) {
            both("judge", w);
            for (int t = 0; t < turns; t++) {
                both("so", t, w);
                both("may", t, w);
                both("isLeft", t + 1, w);
            }
            for (int s = 0; s < speakers; s++) {
                both("knows", s, w, turns);
                both("heap", s, w, turns / 2);
                both("told", s, w);
            }
        }
        for (int s = 0; s < speakers; s++) {
            both("liar", s);
            for (int t = 0; t <= turns; t++) {
                both("knowing", s, t);
            }
        }
        both("only");
        both("which");
        both("mended", 0);
        both("mended", 1);
        both("mended", 2);
    }

    /** What is sought, with the questions that a random call seldom meets. */
    private void sweepSought() {
        both("longest", 0, 1, 0);
        both("longest", 1, 0, 1);
        both("rest", 1, 0);
        for (int w = 0; w < worlds; w++) {
            both("when", 0, 1, w);
            both("when", 1, 0, w);
        }
        for (int i = 0; i < 12 && !isTooLong("soonest") && worlds > 0; i++) {
            int w = below(worlds);
            int wanted = 1 << below(speakers) | below(1 << speakers) & below(1 << speakers);
            int hidden = below(1 << speakers) & below(1 << speakers) & below(1 << speakers);
            for (int k = -1; k < 6; k++) {
                both("soonest", w, wanted, hidden, k);
            }
        }
        for (int n = 1; n <= 4 && !isTooLong("shortest"); n++) {
            for (int what : new int[] {0, 1, 10, 11, 12, 13}) {
                both("shortest", n, what);
            }
        }
        for (int i = 0; i < 4 && !isTooLong("orders") && worlds > 0; i++) {
            int w = i == 0 && want.left(turns) > 0 ? want.leftAt(turns, 0) : below(worlds);
            for (int k = -1; k <= turns; k++) {
                both("orders", w, k);
            }
        }
        for (int i = 0; i < 6; i++) {
            int many = 1 + below(5);
            both("tray", 3, below(4), many);
            for (int p = 0; p < many; p++) {
                both("write", 3, p, (long) (below(8) == 0 ? below(40) - 20 : below(2 * speakers)));
            }
            both("answers", 3, 0);
            both("answers", 3, 1);
            both("answers", 3, 2);
        }
    }

    /** Each tenth seed has few worlds and many speakers, another tenth all worlds; the others stand between. */
    private static int run(long seed) {
        AgainstOracleTest test = new AgainstOracleTest(seed);
        int size = (int) (seed % 10);
        int top = size == 8 ? 3 + test.below(3) : size == 9 ? 40 + test.below(21) : size == 7 ? 9 + test.below(4) : 4 + test.below(5);
        int talks = size == 9 ? 1 : 3;
        test.callSome(5);
        for (int i = 0; i < talks; i++) {
            String text = test.text(top, size < 7 ? 4 : 6, size < 5 ? 5 : 8, size == 0 ? 5 : 2);
            test.tell(text);
            test.callSome(40);
            if (size < 3) {
                test.sweepWorlds();
            }
            if (test.speakers >= 2 && size < 9) {
                test.sweepSought();
            }
            if (i == 0 && seed % 8 == 0) {
                test.both("upTo", 0);
                test.both("upTo", 1);
            }
            for (int j = 0; j < 4; j++) {
                test.tell(test.spoilt(text));
                test.callSome(4);
            }
        }
        return test.wrong;
    }

    /** Facts as deep in one another as a text may have them, each behind others of its row. */
    private static int runDeepest() {
        AgainstOracleTest test = new AgainstOracleTest(0);
        String[] opening = {"sees 0(", "sees 1(", "was 1(", "("};
        String[] ahead = {"same or above 3 and ", "knows 1 or not even and ", "knows 0 and ", "above 7 or above 4 and "};
        String[] behind = {")", " or even)", " and not knows 0)"};
        for (int i = 0; i < 60; i++) {
            StringBuilder saying = new StringBuilder();
            for (int depth = 0; depth < 8; depth++) {
                // In the first ones the innermost counts: the last speaker sees both numbers.
                saying.append(ahead[i < 10 ? 0 : test.below(4)]).append(i < 10 ? "sees 2(" : opening[test.below(4)]);
            }
            saying.append(i % 2 == 0 ? "knows 0 or even and knows 1" : "even or not even and above 5");
            for (int depth = 0; depth < 8; depth++) {
                saying.append(behind[i < 10 ? 0 : test.below(3)]);
            }
            test.tell("numbers 1 to 6;speaker sum;speaker product;speaker squares;say 1 not same or even;say 0 " + saying + ";say 2 " + saying + ";");
            if (!test.both("count", 6).equals("3")) {
                test.wrong++;
                System.out.println("the deepest text has a fault");
            }
            test.sweepWorlds();
        }
        return test.wrong;
    }

    public static void main(String[] args) {
        int runs = args.length > 0 ? Integer.parseInt(args[0]) : 150;
        long first = args.length > 1 ? Long.parseLong(args[1]) : 1;
        int wrong = runDeepest();
        for (long seed = first; seed < first + runs && wrong < 20; seed++) {
            int its = run(seed);
            if (its > 0) {
                System.out.println("seed " + seed + ": " + its + " wrong");
            }
            wrong += its;
        }
        System.out.println(wrong == 0 ? runs + " runs answer as the oracle" : wrong + " answers are not as due");
        if (wrong != 0) {
            System.exit(1);
        }
    }
}
