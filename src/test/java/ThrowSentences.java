import java.util.ArrayList;
import java.util.List;

/** Which throw comes of several, and that a call that throws changes nothing. */
final class ThrowSentences {
    private static final int NONE = TwoSlips.NONE;
    private static final int MAX = Integer.MAX_VALUE;
    private static final int MIN = Integer.MIN_VALUE;
    private static final String NO_SUCH = "throws.NoSuchElementException";
    private static final String ILLEGAL = "throws.IllegalArgumentException";
    private static final String STATE = "throws.IllegalStateException";
    private static final String PLACE = "throws.IndexOutOfBoundsException";

    /** A call on an object, and what it throws. */
    private static final class Case {
        final String name;
        final String due;
        final Asked asked;

        Case(String name, String due, Asked asked) {
            this.name = name;
            this.due = due;
            this.asked = asked;
        }
    }

    interface Asked {
        Object of(TwoSlips x);
    }

    private static final List<Case> CASES = new ArrayList<>();

    private ThrowSentences() {
    }

    static void hold() {
        gatherTalk();
        gatherLeft();
        gatherSought();
        gatherTrays();
        Doc.says("sought", "Of several throws of a call that one comes that is told first.");
        for (Case one : CASES) {
            Due.is(one.name, one.due, () -> one.asked.of(object()));
        }
        Doc.says("sought", "A call that throws changes nothing.");
        String before = String.join("\n", transcript(object()));
        for (Case one : CASES) {
            TwoSlips x = object();
            Due.outcome(() -> one.asked.of(x));
            Due.is("all behind " + one.name, before, () -> String.join("\n", transcript(x)));
        }
        TwoSlips all = object();
        for (Case one : CASES) {
            Due.outcome(() -> one.asked.of(all));
        }
        Due.is("all behind all of them", before, () -> String.join("\n", transcript(all)));
    }

    private static void add(String name, String due, Asked asked) {
        CASES.add(new Case(name, due, asked));
    }

    /** 10 worlds, 2 speakers, 2 turns; a fault; 20 bytes on the tape; trays 0 and 1; image 1. */
    private static TwoSlips object() {
        TwoSlips x = Due.told("numbers 2 to 9;most 12;speaker less;say 0 even;");
        x.image(1);
        Due.tell(x, "numbers 1 to 4;speaker sum;speaker product;say 1 not knows 1;say 0 knows 0;");
        Due.tell(x, "numbers 1 to;");
        Due.feed(x, "numbers 3 to 5;");
        x.tray(0, 0, 3);
        x.write(0, 0, 2);
        x.write(0, 1, 1);
        x.write(0, 2, 9);
        x.tray(1, 3, 0);
        return x;
    }

    private static void look(TwoSlips x, List<Object> seen) {
        for (int what = 0; what <= 8; what++) {
            seen.add(x.count(what));
        }
        for (int what = 0; what <= 1; what++) {
            seen.add(x.fault(what));
        }
        for (int s = 0; s < x.count(5); s++) {
            for (int what = 0; what <= 3; what++) {
                seen.add(x.speaker(s, what));
            }
            seen.add(x.liar(s));
        }
        for (int t = 0; t <= x.count(6); t++) {
            seen.add(x.left(t));
            for (int w = 0; w < x.count(7); w++) {
                seen.add(x.isLeft(t, w));
            }
        }
        for (int tray = 0; tray < 4; tray++) {
            for (int what = 0; what <= 2; what++) {
                int asked = tray;
                int its = what;
                seen.add(Due.outcome(() -> x.answers(asked, its)));
            }
        }
        seen.add(x.which());
        seen.add(x.mended(0));
        seen.add(x.shortest(4, 0));
    }

    /** All that an object can tell of itself, though it does not stay as it is by it. */
    private static List<String> transcript(TwoSlips x) {
        List<Object> seen = new ArrayList<>();
        look(x, seen);
        for (int i = 0; i < 3; i++) {
            int asked = i;
            seen.add(Due.outcome(() -> Due.done(() -> x.restore(asked))));
            look(x, seen);
        }
        seen.add(x.talk(20));
        look(x, seen);
        for (int tray = 0; tray < 4; tray++) {
            for (int place = 0; place < 4; place++) {
                int asked = tray;
                int its = place;
                // What is too wide for a sort of fewer bits tells which sort it is.
                seen.add(Due.outcome(() -> x.write(asked, its, 1L << 40)));
            }
        }
        List<String> told = new ArrayList<>();
        for (Object one : seen) {
            told.add(String.valueOf(one));
        }
        return told;
    }

    private static void gatherTalk() {
        add("talk(21)", ILLEGAL, x -> x.talk(21));
        add("talk(-1)", ILLEGAL, x -> x.talk(-1));
        add("world(10, 9)", NO_SUCH, x -> x.world(10, 9));
        add("world(MIN, MAX)", NO_SUCH, x -> x.world(MIN, MAX));
        add("world(0, 2)", ILLEGAL, x -> x.world(0, 2));
        add("told(2, 10)", NO_SUCH, x -> x.told(2, 10));
        add("told(0, 10)", NO_SUCH, x -> x.told(0, 10));
        add("told(2, 0)", NO_SUCH, x -> x.told(2, 0));
        add("speaker(2, 9)", NO_SUCH, x -> x.speaker(2, 9));
        add("speaker(0, 9)", ILLEGAL, x -> x.speaker(0, 9));
        add("turn(2)", NO_SUCH, x -> x.turn(2));
    }

    private static void gatherLeft() {
        add("left(3)", ILLEGAL, x -> x.left(3));
        add("leftAt(3, 0)", ILLEGAL, x -> x.leftAt(3, 0));
        add("isLeft(3, 10)", NO_SUCH, x -> x.isLeft(3, 10));
        add("isLeft(-1, -1)", NO_SUCH, x -> x.isLeft(-1, -1));
        add("isLeft(3, 0)", ILLEGAL, x -> x.isLeft(3, 0));
        add("so(2, 10)", NO_SUCH, x -> x.so(2, 10));
        add("may(2, 10)", NO_SUCH, x -> x.may(2, 10));
        add("judge(10)", NO_SUCH, x -> x.judge(10));
        add("knows(2, 0, 3)", NO_SUCH, x -> x.knows(2, 0, 3));
        add("knows(0, 10, 3)", NO_SUCH, x -> x.knows(0, 10, 3));
        add("knows(0, 0, 3)", ILLEGAL, x -> x.knows(0, 0, 3));
        add("knowing(2, 3)", NO_SUCH, x -> x.knowing(2, 3));
        add("knowing(0, 3)", ILLEGAL, x -> x.knowing(0, 3));
        add("heap(2, 0, 3)", NO_SUCH, x -> x.heap(2, 0, 3));
        add("heap(0, 10, 3)", NO_SUCH, x -> x.heap(0, 10, 3));
        add("heap(0, 0, -1)", ILLEGAL, x -> x.heap(0, 0, -1));
        add("strikes(2)", ILLEGAL, x -> x.strikes(2));
        add("ends(0, 61)", ILLEGAL, x -> x.ends(0, 61));
        add("upTo(2)", ILLEGAL, x -> x.upTo(2));
    }

    private static void gatherSought() {
        add("rest(2, 2)", NO_SUCH, x -> x.rest(2, 2));
        add("rest(-1, -1)", NO_SUCH, x -> x.rest(-1, -1));
        add("rest(1, 1)", ILLEGAL, x -> x.rest(1, 1));
        add("when(2, 2, 0)", NO_SUCH, x -> x.when(2, 2, 0));
        add("when(1, 1, 10)", NO_SUCH, x -> x.when(1, 1, 10));
        add("when(1, 1, 0)", ILLEGAL, x -> x.when(1, 1, 0));
        add("longest(2, 2, 9)", NO_SUCH, x -> x.longest(2, 2, 9));
        add("longest(0, 2, 9)", NO_SUCH, x -> x.longest(0, 2, 9));
        add("longest(1, 1, 9)", ILLEGAL, x -> x.longest(1, 1, 9));
        add("longest(0, 1, 9)", ILLEGAL, x -> x.longest(0, 1, 9));
        add("soonest(10, 4, 4, 0)", NO_SUCH, x -> x.soonest(10, 4, 4, 0));
        add("soonest(-1, -1, -1, NONE)", NO_SUCH, x -> x.soonest(-1, -1, -1, NONE));
        add("soonest(0, 4, 0, 0)", ILLEGAL, x -> x.soonest(0, 4, 0, 0));
        add("shortest(0, 0)", ILLEGAL, x -> x.shortest(0, 0));
        add("shortest(4, 14)", ILLEGAL, x -> x.shortest(4, 14));
        add("liar(2)", NO_SUCH, x -> x.liar(2));
        add("orders(10, 0)", NO_SUCH, x -> x.orders(10, 0));
        add("mended(3)", ILLEGAL, x -> x.mended(3));
        add("answers(4, 3)", NO_SUCH, x -> x.answers(4, 3));
        add("answers(-1, 3)", NO_SUCH, x -> x.answers(-1, 3));
        add("answers(2, 3)", STATE, x -> x.answers(2, 3));
        add("answers(0, 3)", ILLEGAL, x -> x.answers(0, 3));
    }

    private static void gatherTrays() {
        add("tray(4, 4, 41)", NO_SUCH, x -> Due.done(() -> x.tray(4, 4, 41)));
        add("tray(-1, -1, -1)", NO_SUCH, x -> Due.done(() -> x.tray(-1, -1, -1)));
        add("tray(0, 4, 1)", ILLEGAL, x -> Due.done(() -> x.tray(0, 4, 1)));
        add("tray(0, 1, 41)", ILLEGAL, x -> Due.done(() -> x.tray(0, 1, 41)));
        add("tray(2, 1, -1)", ILLEGAL, x -> Due.done(() -> x.tray(2, 1, -1)));
        add("write(4, 40, 1)", NO_SUCH, x -> x.write(4, 40, 1));
        add("write(2, 40, 1)", STATE, x -> x.write(2, 40, 1));
        add("write(2, 0, 1)", STATE, x -> x.write(2, 0, 1));
        add("write(0, 3, 1)", PLACE, x -> x.write(0, 3, 1));
        add("write(0, -1, 1)", PLACE, x -> x.write(0, -1, 1));
        add("write(1, 0, 1)", PLACE, x -> x.write(1, 0, 1));
        add("pour(4)", NO_SUCH, x -> x.pour(4));
        add("pour(2)", STATE, x -> x.pour(2));
        add("image(3)", NO_SUCH, x -> Due.done(() -> x.image(3)));
        add("image(-1)", NO_SUCH, x -> Due.done(() -> x.image(-1)));
        add("restore(3)", NO_SUCH, x -> Due.done(() -> x.restore(3)));
        add("restore(-1)", NO_SUCH, x -> Due.done(() -> x.restore(-1)));
        add("restore(0)", STATE, x -> Due.done(() -> x.restore(0)));
        add("restore(2)", STATE, x -> Due.done(() -> x.restore(2)));
    }
}
