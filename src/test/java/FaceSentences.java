import java.lang.reflect.Constructor;
import java.lang.reflect.Field;
import java.lang.reflect.Method;
import java.lang.reflect.Modifier;
import java.util.Arrays;
import java.util.TreeSet;
import java.util.function.IntFunction;

/** Promises 1 to 20: the talk, and what is left. */
final class FaceSentences {
    private static final int NONE = TwoSlips.NONE;
    private static final int MIN = Integer.MIN_VALUE;
    private static final int MAX = Integer.MAX_VALUE;
    // 0 (1,1) 1 (1,2) 2 (1,3) 3 (1,4) 4 (2,2) 5 (2,3) 6 (2,4) 7 (3,3) 8 (3,4) 9 (4,4).
    private static final String FOUR = "numbers 1 to 4;speaker sum;speaker product;";
    // Behind the first turn, and behind both, worlds 3 and 4 are left.
    private static final String SHY = FOUR + "say 1 not knows 1;say 0 knows 0;";

    private FaceSentences() {
    }

    static void hold() {
        face();
        newObject();
        feed();
        talk();
        fault();
        worlds();
        speakers();
        turns();
        left();
        sayings();
        knowledge();
        strikes();
    }

    private static String signature(Method m) {
        StringBuilder text = new StringBuilder("public " + m.getReturnType().getSimpleName() + " " + m.getName() + "(");
        String[] types = Arrays.stream(m.getParameterTypes()).map(Class::getSimpleName).toArray(String[]::new);
        String[] thrown = Arrays.stream(m.getExceptionTypes()).map(Class::getSimpleName).toArray(String[]::new);
        text.append(String.join(", ", types)).append(")");
        return text + (thrown.length == 0 ? "" : " throws " + String.join(", ", thrown)) + ";";
    }

    /** The face is the document's, and nothing else can be seen from outside. */
    private static void face() {
        Due.about("the public face");
        TreeSet<String> due = new TreeSet<>();
        for (String line : Doc.face().split("\n")) {
            if (line.contains("(") && !line.contains("TwoSlips(")) {
                due.add(line.trim().replaceAll("(int|long|boolean) [A-Za-z]+(?=[,)])", "$1"));
            }
        }
        TreeSet<String> seen = new TreeSet<>();
        for (Method m : TwoSlips.class.getDeclaredMethods()) {
            if (!Modifier.isPrivate(m.getModifiers())) {
                seen.add(signature(m));
            }
        }
        if (!due.isEmpty()) {
            Due.is("methods", due, () -> seen);
        }
        Due.is("a public final class", Modifier.PUBLIC | Modifier.FINAL, () -> TwoSlips.class.getModifiers());
        Constructor<?>[] makers = TwoSlips.class.getDeclaredConstructors();
        Due.is("constructors", "[public TwoSlips()]", () -> Arrays.toString(makers));
        TreeSet<String> fields = new TreeSet<>();
        for (Field f : TwoSlips.class.getDeclaredFields()) {
            if (!Modifier.isPrivate(f.getModifiers())) {
                fields.add(Modifier.toString(f.getModifiers()) + " " + f.getType() + " " + f.getName());
            }
        }
        Due.is("fields", "[public static final int NONE]", () -> fields);

        Doc.says("constants", "`NONE = -1`: There is none.");
        Due.is("NONE", -1, () -> TwoSlips.NONE);
    }

    private static void newObject() {
        Doc.says(1, "No TALK;");
        TwoSlips x = new TwoSlips();
        int[] counts = {0, 2, 20, 120, 0, 0, 0, 190};
        for (int what = 0; what < counts.length; what++) {
            int asked = what;
            Due.is("count(" + what + ")", counts[what], () -> x.count(asked));
        }
        Due.is("left(0)", 190, () -> x.left(0));
        Due.illegal("left(1)", () -> x.left(1));
        Due.noSuch("turn(0)", () -> x.turn(0));
        Due.noSuch("liar(0)", () -> x.liar(0));
        Due.noSuch("rest(0, 1)", () -> x.rest(0, 1));
        Due.illegalState("restore(0)", () -> Due.done(() -> x.restore(0)));

        Doc.says(1, "TRAYS are MISSING;");
        for (int tray = 0; tray < 4; tray++) {
            int asked = tray;
            Due.illegalState("pour(" + tray + ")", () -> x.pour(asked));
            Due.illegalState("write(" + tray + ", ..)", () -> x.write(asked, 0, 0));
            Due.illegalState("answers(" + tray + ", ..)", () -> x.answers(asked, 0));
        }

        Doc.says(1, "an empty tape.");
        Due.is("count(8)", 0, () -> x.count(8));
        Due.illegal("talk(1)", () -> x.talk(1));
        Due.is("talk(0)", 0, () -> x.talk(0));
        Due.is("the first twenty", 20, () -> x.feed(0, 0, 0, 0, 0));
    }

    private static void feed() {
        Doc.says(2, "Twenty bytes come behind those on the tape, the highest of each int first: how many it has;");
        TwoSlips x = new TwoSlips();
        // "speaker sum;speaker " and "less;speaker digit; "
        Due.is("twenty", 20, () -> x.feed(0x73706561, 0x6b657220, 0x73756d3b, 0x73706561, 0x6b657220));
        Due.is("forty", 40, () -> x.feed(0x6c657373, 0x3b737065, 0x616b6572, 0x20646967, 0x69743b20));
        Due.is("its lines", 3, () -> x.talk(40));
        Due.is("first", 0, () -> x.speaker(0, 0));
        Due.is("second", 3, () -> x.speaker(1, 0));
        Due.is("third", 7, () -> x.speaker(2, 0));
        // Each byte of the twenty in turn is the one that no token begins with.
        for (int place = 0; place < 20; place++) {
            int[] five = new int[5];
            for (int i = 0; i < 20; i++) {
                five[i / 4] = five[i / 4] << 8 | (i == place ? 0xff : 32);
            }
            int its = place;
            x.feed(five[0], five[1], five[2], five[3], five[4]);
            Due.is("byte " + place, -11, () -> x.talk(20));
            Due.is("byte " + place, its, () -> x.fault(1));
        }

        Doc.says(2, "NONE, and nothing changes, if there would be more than 900.");
        TwoSlips full = new TwoSlips();
        for (int n = 20; n <= 900; n += 20) {
            Due.is("feed", n, () -> full.feed(0x20202020, 0x20202020, 0x20202020, 0x20202020, 0x20202020));
        }
        for (int i = 0; i < 3; i++) {
            Due.is("feed beyond", NONE, () -> full.feed(-1, -1, -1, -1, -1));
            Due.is("count(8)", 900, () -> full.count(8));
        }
        Due.is("all as it was", 0, () -> full.talk(900));
        Due.is("room again", 20, () -> full.feed(0, 0, 0, 0, 0));
    }

    private static void talk() {
        Doc.says(3, "The first n bytes of the tape (which is empty then) are the TALK: how many LINES;");
        TwoSlips x = new TwoSlips();
        Due.feed(x, "unlike;numbers 3 to 6;most 9;");
        Due.is("two lines of three", 2, () -> x.talk(22));
        Due.is("numbers", 3, () -> x.count(1));
        Due.is("most", 120, () -> x.count(3));
        Due.is("the tape", 0, () -> x.count(8));
        Due.illegal("nothing is on it", () -> x.talk(1));
        Due.is("no bytes of none", 0, () -> x.talk(0));
        Due.is("no talk", 190, () -> x.count(7));
        Due.feed(x, "unlike;numbers 3 to 6;most 9;");
        Due.is("no bytes of 40", 0, () -> x.talk(0));
        Due.is("the tape", 0, () -> x.count(8));
        Due.feed(x, "unlike;unlike;unlike");
        Due.is("all but the last is not enough", -12, () -> x.talk(20));
        Due.feed(x, "unlike;unlike;most9;");
        Due.is("all bytes", 3, () -> x.talk(20));

        retold();

        Doc.says(3, "-10 less the FAULT (all stays).");
        TwoSlips plain = Due.told("numbers 1 to 4;unlike;speaker sum;say 0 even;");
        for (int i = 0; i < 7; i++) {
            Due.is("a fault", -12, () -> Due.tell(plain, "numbers 3 to 5;most 9;speaker odd liar;say 0 same;say 0"));
            Due.is("lines", 4, () -> plain.count(0));
            Due.is("worlds", 6, () -> plain.count(7));
            Due.is("sight", 0, () -> plain.speaker(0, 0));
            Due.is("left", 2, () -> plain.left(1));
        }
        TwoSlips stays = Due.told(SHY);
        stays.tray(0, 0, 1);
        stays.image(0);
        String[] texts = {"most 9;$", "most 9;;", "most 9;most 1;", "speaker sum;".repeat(7),
            "unlike;speaker sum;say 0 " + "not ".repeat(9) + "even;"};
        for (int kind = 1; kind <= 5; kind++) {
            String text = texts[kind - 1];
            Due.is("fault " + kind, -10 - kind, () -> Due.tell(stays, text));
            int its = kind;
            Due.is("its kind", its, () -> stays.fault(0));
            int[] counts = {5, 1, 4, 120, 0, 2, 2, 10};
            for (int what = 0; what < counts.length; what++) {
                int asked = what;
                Due.is("count(" + what + ")", counts[what], () -> stays.count(asked));
            }
            Due.is("sight", 1, () -> stays.speaker(1, 0));
            Due.is("left", 2, () -> stays.left(2));
            Due.is("tray", 0L, () -> stays.write(0, 0, 0));
            stays.restore(0);
            Due.is("image", 2, () -> stays.left(1));
        }

        Doc.says(3, "IllegalArgumentException: n is below 0 or above what it has.");
        TwoSlips y = new TwoSlips();
        Due.illegal("talk(1) of nothing", () -> y.talk(1));
        Due.feed(y, "unlike;");
        for (int n : new int[] {-1, 21, MIN, MAX}) {
            Due.illegal("talk(" + n + ")", () -> y.talk(n));
            Due.is("the tape stays", 20, () -> y.count(8));
        }
        Due.is("talk(20)", 1, () -> y.talk(20));
    }

    /** Nothing of one talk is left in the next, however often another one is told. */
    private static void retold() {
        TwoSlips x = new TwoSlips();
        for (int round = 0; round < 7; round++) {
            Due.is("a long talk", 8, () -> Due.tell(x,
                "numbers 1 to 4;most 7;unlike;speaker product liar;speaker product deaf;say 0 even or same;say 1 same;say 0 not even;"));
            Due.is("most", 7, () -> x.count(3));
            Due.is("worlds", 6, () -> x.count(7));
            Due.is("left", 0, () -> x.left(3));
            Due.is("liar", 1, () -> x.speaker(0, 1));
            Due.is("deaf", 1, () -> x.speaker(1, 2));
            Due.is("world", 2, () -> x.world(0, 1));
            Due.is("a short one", 3, () -> Due.tell(x, "speaker sum;speaker nothing;say 0 above 39;"));
            int[] counts = {3, 2, 20, 120, 0, 2, 1, 190};
            for (int what = 0; what < counts.length; what++) {
                int asked = what;
                Due.is("count(" + what + ")", counts[what], () -> x.count(asked));
            }
            Due.is("liar", 0, () -> x.speaker(0, 1));
            Due.is("deaf", 0, () -> x.speaker(1, 2));
            Due.is("world", 2, () -> x.world(0, 1));
            Due.is("only", 189, () -> x.only());
            Due.is("judge", 0, () -> x.judge(0));
            // A third one, so that no two of them come by turns.
            Due.is("a line", 1, () -> Due.tell(x, "numbers 5 to 6;"));
            Due.is("no turns", 3, () -> x.left(0));
        }
    }

    private static void fault() {
        Doc.says(4, "Of the latest talk() that threw nothing, what 0: the FAULT (0 without, and at first),");
        TwoSlips x = new TwoSlips();
        Due.is("at first", 0, () -> x.fault(0));
        Due.tell(x, "most 9;$");
        Due.is("one", 1, () -> x.fault(0));
        Due.illegal("a throw", () -> x.talk(1));
        Due.is("a throw counts for nothing", 1, () -> x.fault(0));
        Due.tell(x, "most 1;");
        Due.is("another one", 3, () -> x.fault(0));
        x.image(0);
        x.restore(0);
        Due.is("images count for nothing", 3, () -> x.fault(0));
        Due.feed(x, "most 9;");
        Due.is("the tape counts for nothing", 3, () -> x.fault(0));
        x.talk(7);
        Due.is("without", 0, () -> x.fault(0));

        Doc.says(4, "1: its place (NONE without).");
        TwoSlips y = new TwoSlips();
        Due.is("at first", NONE, () -> y.fault(1));
        Due.tell(y, "most 9;$");
        Due.is("place", 7, () -> y.fault(1));
        Due.illegal("a throw", () -> y.talk(-1));
        Due.is("a throw counts for nothing", 7, () -> y.fault(1));
        Due.tell(y, "$");
        Due.is("the first place", 0, () -> y.fault(1));
        Due.tell(y, "most 9;");
        Due.is("without", NONE, () -> y.fault(1));

        Doc.says(4, "NONE for others.");
        Due.tell(y, "$");
        for (int what : new int[] {-1, 2, 3, MIN, MAX}) {
            Due.is("fault(" + what + ")", NONE, () -> y.fault(what));
        }
    }

    private static void throwsAll(String name, String due, IntFunction<Object> call, int... wrong) {
        for (int v : wrong) {
            Due.is(name + " of " + v, "throws." + due, () -> call.apply(v));
        }
    }

    private static void noWorld(String name, int many, IntFunction<Object> call) {
        throwsAll(name, "NoSuchElementException", call, -1, many, many + 1, MIN, MAX);
        Due.is(name + " of the first and the last", "fine", () -> fine(call, 0, many - 1));
    }

    /** Whether a call throws nothing with two arguments. */
    private static String fine(IntFunction<Object> call, int one, int other) {
        call.apply(one);
        call.apply(other);
        return "fine";
    }

    private static void worlds() {
        Doc.says(5, "Of a WORLD, what 0: x, 1: y.");
        TwoSlips x = Due.told("numbers 3 to 5;");
        int[][] pairs = {{3, 3}, {3, 4}, {3, 5}, {4, 4}, {4, 5}, {5, 5}};
        for (int w = 0; w < pairs.length; w++) {
            int asked = w;
            Due.is("x of " + w, pairs[w][0], () -> x.world(asked, 0));
            Due.is("y of " + w, pairs[w][1], () -> x.world(asked, 1));
        }

        Doc.says(5, "NoSuchElementException: no such WORLD (as everywhere);");
        TwoSlips y = Due.told(SHY);
        for (TwoSlips z : new TwoSlips[] {y, Due.told(SHY + "most 5;unlike;")}) {
            int many = z == y ? 10 : 4;
            noWorld("world 0", many, w -> z.world(w, 0));
            noWorld("world 1", many, w -> z.world(w, 1));
            noWorld("told", many, w -> z.told(1, w));
            noWorld("isLeft", many, w -> z.isLeft(2, w));
            noWorld("so", many, w -> z.so(1, w));
            noWorld("may", many, w -> z.may(1, w));
            noWorld("judge", many, w -> z.judge(w));
            noWorld("knows", many, w -> z.knows(1, w, 2));
            noWorld("heap", many, w -> z.heap(1, w, 2));
            noWorld("when", many, w -> z.when(0, 1, w));
            noWorld("soonest", many, w -> z.soonest(w, 3, 0, NONE));
            noWorld("orders", many, w -> z.orders(w, NONE));
        }

        Doc.says(5, "IllegalArgumentException: another what.");
        throwsAll("world(0, what)", "IllegalArgumentException", what -> y.world(0, what), -1, 2, 3, MIN, MAX);

        Doc.says(6, "The WORLD of two numbers, in whatever order;");
        TwoSlips z = Due.told("numbers 3 to 6;unlike;most 10;");
        int[][] its = {{3, 4}, {3, 5}, {3, 6}, {4, 5}, {4, 6}};
        for (int w = 0; w < its.length; w++) {
            int asked = w;
            Due.is("pair", w, () -> z.pair(its[asked][0], its[asked][1]));
            Due.is("pair the other way round", w, () -> z.pair(its[asked][1], its[asked][0]));
        }
        TwoSlips all = Due.told("numbers 1 to 60;");
        Due.is("the first", 0, () -> all.pair(1, 1));
        Due.is("the last", 1829, () -> all.pair(60, 60));
        Due.is("the last of 1", 59, () -> all.pair(60, 1));

        Doc.says(6, "NONE.");
        int[][] none = {{3, 3}, {6, 6}, {5, 6}, {2, 4}, {4, 2}, {3, 7}, {7, 3}, {MIN, 3}, {3, MIN}, {MAX, 3}, {MAX, MAX}, {MIN, MIN},
            {MAX, MIN}, {0, 0}, {-3, 4}, {0, 3}};
        for (int[] pair : none) {
            Due.is("pair(" + pair[0] + ", " + pair[1] + ")", NONE, () -> z.pair(pair[0], pair[1]));
        }
        Due.is("0 and 1", NONE, () -> all.pair(0, 1));
        Due.is("60 and 61", NONE, () -> all.pair(60, 61));
    }

    private static void noSpeaker(String name, IntFunction<Object> call) {
        throwsAll(name, "NoSuchElementException", call, -1, 2, 3, 6, MIN, MAX);
    }

    private static void speakers() {
        Doc.says(7, "SLIP of a SPEAKER in a WORLD.");
        TwoSlips x = Due.told(SHY);
        int[] sums = {2, 3, 4, 5, 4, 5, 6, 6, 7, 8};
        int[] products = {1, 2, 3, 4, 4, 6, 8, 9, 12, 16};
        for (int w = 0; w < 10; w++) {
            int asked = w;
            Due.is("sum of " + w, sums[w], () -> x.told(0, asked));
            Due.is("product of " + w, products[w], () -> x.told(1, asked));
        }

        Doc.says(7, "NoSuchElementException: also no such SPEAKER (as everywhere).");
        noSpeaker("told", s -> x.told(s, 0));
        noSpeaker("speaker", s -> x.speaker(s, 0));
        noSpeaker("knows", s -> x.knows(s, 0, 0));
        noSpeaker("knowing", s -> x.knowing(s, 0));
        noSpeaker("heap", s -> x.heap(s, 0, 0));
        noSpeaker("rest", s -> x.rest(s, 1));
        noSpeaker("rest, other", s -> x.rest(0, s));
        noSpeaker("when", s -> x.when(s, 1, 0));
        noSpeaker("when, other", s -> x.when(0, s, 0));
        noSpeaker("longest", s -> x.longest(s, 1, 0));
        noSpeaker("longest, other", s -> x.longest(0, s, 0));
        noSpeaker("liar", s -> x.liar(s));
        Due.noSuch("without speakers", () -> new TwoSlips().told(0, 0));

        TwoSlips y = Due.told("speaker sum;speaker product liar;speaker greater deaf;speaker less liar deaf;speaker difference;"
            + "speaker squares;say 1 even;say 4 same;say 1 not even;");
        Doc.says(8, "Of a SPEAKER, what 0: his SIGHT (0 sum to 8 nothing),");
        TwoSlips z = Due.told("speaker nothing;speaker digit;speaker odd;");
        for (int s = 0; s < 6; s++) {
            int asked = s;
            Due.is("sight of " + s, s, () -> y.speaker(asked, 0));
        }
        Due.is("nothing", 8, () -> z.speaker(0, 0));
        Due.is("digit", 7, () -> z.speaker(1, 0));
        Due.is("odd", 6, () -> z.speaker(2, 0));

        Doc.says(8, "1: 1 a LIAR, 2: 1 DEAF (else 0),");
        int[] liars = {0, 1, 0, 1, 0, 0};
        int[] deaf = {0, 0, 1, 1, 0, 0};
        for (int s = 0; s < 6; s++) {
            int asked = s;
            Due.is("liar " + s, liars[s], () -> y.speaker(asked, 1));
            Due.is("deaf " + s, deaf[s], () -> y.speaker(asked, 2));
        }

        Doc.says(8, "3: how many TURNS are his.");
        int[] his = {0, 2, 0, 0, 1, 0};
        for (int s = 0; s < 6; s++) {
            int asked = s;
            Due.is("turns of " + s, his[s], () -> y.speaker(asked, 3));
        }
        Due.is("all of twenty", 20, () -> Due.told("speaker sum;" + "say 0 even;".repeat(20)).speaker(0, 3));

        Doc.says(8, "IllegalArgumentException: another what.");
        throwsAll("speaker(0, what)", "IllegalArgumentException", what -> y.speaker(0, what), -1, 4, 5, MIN, MAX);
    }

    private static void turns() {
        Doc.says(9, "The SPEAKER of a TURN.");
        TwoSlips x = Due.told(SHY);
        Due.is("turn(0)", 1, () -> x.turn(0));
        Due.is("turn(1)", 0, () -> x.turn(1));
        Due.is("the last of twenty", 1, () -> Due.told(FOUR + "say 0 even;".repeat(19) + "say 1 even;").turn(19));

        Doc.says(9, "NoSuchElementException: no such TURN (as everywhere).");
        throwsAll("turn", "NoSuchElementException", t -> x.turn(t), -1, 2, 3, MIN, MAX);
        throwsAll("so", "NoSuchElementException", t -> x.so(t, 0), -1, 2, 3, MIN, MAX);
        throwsAll("may", "NoSuchElementException", t -> x.may(t, 0), -1, 2, 3, MIN, MAX);
        Due.noSuch("without turns", () -> Due.told(FOUR).turn(0));
        Due.noSuch("without turns", () -> Due.told(FOUR).so(0, 0));
        Due.noSuch("behind twenty", () -> Due.told(FOUR + "say 0 even;".repeat(20)).turn(20));
    }

    private static void notSoMany(String name, IntFunction<Object> call) {
        throwsAll(name, "IllegalArgumentException", call, -1, 3, 4, MIN, MAX);
        Due.is(name + " of none and of all", "fine", () -> fine(call, 0, 2));
    }

    private static void left() {
        Doc.says(10, "How many WORLDS are LEFT behind t TURNS.");
        TwoSlips x = Due.told(SHY);
        Due.is("behind 0", 10, () -> x.left(0));
        Due.is("behind 1", 2, () -> x.left(1));
        Due.is("behind 2", 2, () -> x.left(2));
        Due.is("none", 0, () -> Due.told(FOUR + "say 0 above 8;").left(1));

        Doc.says(10, "IllegalArgumentException: t is below 0 or above all (as everywhere).");
        notSoMany("left", t -> x.left(t));
        notSoMany("leftAt", t -> x.leftAt(t, 0));
        notSoMany("isLeft", t -> x.isLeft(t, 0));
        notSoMany("knows", t -> x.knows(0, 0, t));
        notSoMany("knowing", t -> x.knowing(0, t));
        notSoMany("heap", t -> x.heap(0, 0, t));
        TwoSlips deaf = Due.told("numbers 1 to 4;speaker sum deaf;say 0 even;say 0 even;");
        notSoMany("knows of the deaf", t -> deaf.knows(0, 0, t));
        notSoMany("knowing of the deaf", t -> deaf.knowing(0, t));
        notSoMany("heap of the deaf", t -> deaf.heap(0, 0, t));

        Doc.says(11, "The k-th of these, from 0 on;");
        for (int k = 0; k < 10; k++) {
            int asked = k;
            Due.is("all, " + k, k, () -> x.leftAt(0, asked));
        }
        for (int t = 1; t <= 2; t++) {
            int asked = t;
            Due.is("first behind " + t, 3, () -> x.leftAt(asked, 0));
            Due.is("second behind " + t, 4, () -> x.leftAt(asked, 1));
        }

        Doc.says(11, "NONE.");
        for (int k : new int[] {-1, 2, 3, 9, 10, MIN, MAX}) {
            Due.is("leftAt(1, " + k + ")", NONE, () -> x.leftAt(1, k));
        }
        Due.is("leftAt(0, 10)", NONE, () -> x.leftAt(0, 10));
        Due.is("none is left", NONE, () -> Due.told(FOUR + "say 0 above 8;").leftAt(1, 0));

        Doc.says(12, "Whether a WORLD is LEFT behind t TURNS.");
        for (int w = 0; w < 10; w++) {
            int asked = w;
            Due.is("isLeft(0, " + w + ")", true, () -> x.isLeft(0, asked));
            Due.is("isLeft(1, " + w + ")", w == 3 || w == 4, () -> x.isLeft(1, asked));
            Due.is("isLeft(2, " + w + ")", w == 3 || w == 4, () -> x.isLeft(2, asked));
        }

        Doc.says(13, "The only WORLD that is LEFT behind all TURNS;");
        Due.is("one", 9, () -> Due.told(FOUR + "say 0 above 7;").only());
        Due.is("the first", 0, () -> Due.told(FOUR + "say 0 not above 2;").only());
        Due.is("one behind all, not behind the first", 8, () -> Due.told(FOUR + "say 0 above 5;say 0 not even;").only());
        Due.is("without turns", 0, () -> Due.told("numbers 7 to 7;").only());

        Doc.says(13, "NONE: none, or several.");
        Due.is("none", NONE, () -> Due.told(FOUR + "say 0 above 8;").only());
        Due.is("none behind one", NONE, () -> Due.told(FOUR + "say 0 above 7;say 0 not even;").only());
        Due.is("two", NONE, () -> x.only());
        Due.is("all", NONE, () -> new TwoSlips().only());
        Due.is("no world", NONE, () -> Due.told("numbers 7 to 7;unlike;").only());
    }

    private static void sayings() {
        Doc.says(14, "Whether what a TURN says is SO in a WORLD, ahead of it.");
        TwoSlips x = Due.told(FOUR + "say 1 not knows 1;say 0 knows 0;say 1 knows 0;");
        for (int w = 0; w < 10; w++) {
            int asked = w;
            Due.is("so(0, " + w + ")", w == 3 || w == 4, () -> x.so(0, asked));
            // Ahead of it: 2 and 5 have a like one of the two that are left, all others none.
            Due.is("so(1, " + w + ")", w != 2 && w != 5, () -> x.so(1, asked));
            Due.is("so(2, " + w + ")", w != 2 && w != 5, () -> x.so(2, asked));
        }

        Doc.says(15, "Whether its SPEAKER MAY say it there.");
        TwoSlips y = Due.told("numbers 1 to 4;speaker sum;speaker product;speaker sum liar;say 0 not same;say 2 not same;");
        for (int w = 0; w < 10; w++) {
            int asked = w;
            Due.is("may(0, " + w + ")", w == 1 || w == 3 || w == 5 || w == 8, () -> y.may(0, asked));
            // Of the sums that are left all are sure, elsewhere nothing is left: a liar may say it nowhere.
            Due.is("may(1, " + w + ")", false, () -> y.may(1, asked));
            Due.is("so(1, " + w + ")", w != 0 && w != 4 && w != 7 && w != 9, () -> y.so(1, asked));
        }

        Doc.says(16, "The first TURN that may not be said in a WORLD, all ahead of it being said;");
        TwoSlips z = Due.told(FOUR + "say 0 above 2;say 0 not above 7;say 0 even;say 0 not above 2;");
        int[] judged = {0, 2, 3, 2, 3, 2, 3, 3, 2, 1};
        for (int w = 0; w < 10; w++) {
            int asked = w;
            Due.is("judge(" + w + ")", judged[w], () -> z.judge(asked));
        }

        Doc.says(16, "NONE: all may.");
        Due.is("all of twenty", NONE, () -> Due.told(FOUR + "say 0 even;".repeat(20)).judge(9));
        Due.is("no turns", NONE, () -> Due.told(FOUR).judge(9));
        Due.is("both", NONE, () -> Due.told(SHY).judge(3));
        Due.is("the last of twenty", 19, () -> Due.told(FOUR + "say 0 even;".repeat(19) + "say 0 above 8;").judge(9));
    }

    private static void knowledge() {
        Doc.says(17, "Whether a SPEAKER knows in a WORLD behind t TURNS (SO: knows;");
        TwoSlips x = Due.told(SHY);
        for (int w = 0; w < 10; w++) {
            int asked = w;
            Due.is("knows(0, " + w + ", 0)", w < 2 || w > 7, () -> x.knows(0, asked, 0));
            Due.is("knows(1, " + w + ", 0)", w != 3 && w != 4, () -> x.knows(1, asked, 0));
            Due.is("knows(0, " + w + ", 1)", w != 2 && w != 5, () -> x.knows(0, asked, 1));
            Due.is("knows(1, " + w + ", 2)", w != 3 && w != 4, () -> x.knows(1, asked, 2));
        }

        Doc.says(17, "the DEAF by all WORLDS behind 0).");
        TwoSlips deaf = Due.told("numbers 1 to 4;speaker sum deaf;speaker product;say 1 not knows 1;");
        for (int w = 0; w < 10; w++) {
            int asked = w;
            Due.is("knows(0, " + w + ", 1) of the deaf", w < 2 || w > 7, () -> deaf.knows(0, asked, 1));
        }

        Doc.says(18, "In how many WORLDS that are LEFT behind t TURNS he knows.");
        Due.is("knowing(0, 0)", 4, () -> x.knowing(0, 0));
        Due.is("knowing(1, 0)", 8, () -> x.knowing(1, 0));
        Due.is("knowing(0, 1)", 2, () -> x.knowing(0, 1));
        Due.is("knowing(1, 1)", 0, () -> x.knowing(1, 1));
        Due.is("the deaf", 0, () -> deaf.knowing(0, 1));
        Due.is("the deaf, where something is left that he knew", 2,
            () -> Due.told("numbers 1 to 4;speaker sum deaf;speaker sum;say 1 above 5;").knowing(0, 1));
        Due.is("none is left", 0, () -> Due.told(FOUR + "say 0 above 8;").knowing(0, 1));

        Doc.says(19, "How many WORLDS that are LEFT behind t TURNS (for the DEAF: 0) are LIKE a WORLD to him.");
        int[] before = {1, 1, 2, 2, 2, 2, 2, 2, 1, 1};
        int[] behind = {0, 0, 1, 1, 1, 1, 0, 0, 0, 0};
        int[] product = {0, 0, 0, 2, 2, 0, 0, 0, 0, 0};
        for (int w = 0; w < 10; w++) {
            int asked = w;
            Due.is("heap(0, " + w + ", 0)", before[w], () -> x.heap(0, asked, 0));
            Due.is("heap(0, " + w + ", 1)", behind[w], () -> x.heap(0, asked, 1));
            Due.is("heap(1, " + w + ", 2)", product[w], () -> x.heap(1, asked, 2));
            Due.is("heap(0, " + w + ", 1) of the deaf", before[w], () -> deaf.heap(0, asked, 1));
        }
    }

    private static void strikes() {
        Doc.says(20, "How many WORLDS the TURN that strikes most strikes (what 0),");
        TwoSlips x = Due.told(FOUR + "say 0 above 2;say 0 above 4;say 0 not above 7;say 0 not even;");
        Due.is("three of 1, 3, 1, 2", 3, () -> x.strikes(0));
        Due.is("all", 10, () -> Due.told(FOUR + "say 0 above 8;say 0 even;").strikes(0));
        Due.is("nothing", 0, () -> Due.told(FOUR + "say 0 above 1;").strikes(0));
        Due.is("without turns", 0, () -> Due.told(FOUR).strikes(0));

        Doc.says(20, "the first such TURN (1; NONE without TURNS).");
        Due.is("the second", 1, () -> x.strikes(1));
        Due.is("of like ones the first", 1, () -> Due.told(FOUR + "say 0 above 0;say 0 above 2;say 0 above 3;").strikes(1));
        Due.is("the last", 2, () -> Due.told(FOUR + "say 0 above 2;say 0 above 3;say 0 above 5;").strikes(1));
        Due.is("none strikes anything", 0, () -> Due.told(FOUR + "say 0 above 0;say 0 above 1;").strikes(1));
        Due.is("without turns", NONE, () -> Due.told(FOUR).strikes(1));

        Doc.says(20, "IllegalArgumentException: another what.");
        throwsAll("strikes", "IllegalArgumentException", what -> x.strikes(what), -1, 2, 3, MIN, MAX);
        throwsAll("strikes without turns", "IllegalArgumentException", what -> new TwoSlips().strikes(what), -1, 2, MIN, MAX);
    }
}
