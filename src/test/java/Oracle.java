import java.util.ArrayDeque;
import java.util.ArrayList;
import java.util.Arrays;
import java.util.Deque;
import java.util.HashMap;
import java.util.IdentityHashMap;
import java.util.List;
import java.util.Map;
import java.util.NoSuchElementException;

/**
 * The document once more, word by word and without any thought of speed: tests hold TwoSlips against it.
 * It shares no code and no method with it: worlds are judged one by one, rows are tried out whole.
 */
public final class Oracle {
    private static final int NONE = -1;
    private static final List<String> SIGHTS =
        List.of("sum", "product", "greater", "less", "difference", "squares", "odd", "digit", "nothing");

    private static final class Token {
        final int kind; // 0 end, 1 word, 2 number, 3 sign, 4 strange
        final int place;
        final String text;

        Token(int kind, int place, String text) {
            this.kind = kind;
            this.place = place;
            this.text = text;
        }

        boolean is(String t) {
            return (kind == 1 || kind == 3) && text.equals(t);
        }

        int number() {
            return Integer.parseInt(text);
        }
    }

    private static final class Fact {
        final String kind;
        final int n;
        final List<Fact> parts = new ArrayList<>();

        Fact(String kind, int n, Fact... parts) {
            this.kind = kind;
            this.n = n;
            this.parts.addAll(Arrays.asList(parts));
        }
    }

    private static final class Talk {
        int lines;
        int from = 2;
        int to = 20;
        int most = 120;
        boolean unlike;
        final List<Integer> sights = new ArrayList<>();
        final List<Boolean> liars = new ArrayList<>();
        final List<Boolean> deaf = new ArrayList<>();
        final List<Integer> who = new ArrayList<>();
        final List<Fact> says = new ArrayList<>();

        List<int[]> worlds(int low, int high) {
            List<int[]> all = new ArrayList<>();
            for (int x = low; x <= high; x++) {
                for (int y = low; y <= high; y++) {
                    if ((unlike ? x < y : x <= y) && x + y <= most) {
                        all.add(new int[] {x, y});
                    }
                }
            }
            return all;
        }
    }

    /** Some worlds, and those that are left behind 0, 1, .. turns. */
    private final class Course {
        final List<int[]> worlds;
        final List<boolean[]> left = new ArrayList<>();
        final boolean[] lies = new boolean[6];
        final int[][] slips = new int[6][];
        // What was found so, by fact, turns and world: 0 not yet asked, 1 not so, 2 so.
        final Map<Fact, byte[][]> found = new IdentityHashMap<>();
        final Map<List<Integer>, int[]> soonest = new HashMap<>();

        Course(List<int[]> worlds) {
            this.worlds = worlds;
            for (int s = 0; s < talk.sights.size(); s++) {
                slips[s] = new int[worlds.size()];
                for (int w = 0; w < worlds.size(); w++) {
                    slips[s][w] = slip(s, w);
                }
            }
            boolean[] all = new boolean[worlds.size()];
            Arrays.fill(all, true);
            left.add(all);
            for (int s = 0; s < talk.liars.size(); s++) {
                lies[s] = talk.liars.get(s);
            }
        }

        int slip(int s, int w) {
            int x = worlds.get(w)[0];
            int y = worlds.get(w)[1];
            return new int[] {x + y, x * y, y, x, y - x, x * x + y * y, (x + y) % 2, (x + y) % 10, 0}[talk.sights.get(s)];
        }

        boolean like(int s, int v, int w) {
            return slips[s][v] == slips[s][w];
        }

        boolean knows(boolean[] leftThen, int s, int w) {
            for (int v = 0; v < worlds.size(); v++) {
                if (v != w && leftThen[v] && like(s, v, w)) {
                    return false;
                }
            }
            return true;
        }

        boolean sees(Fact fact, int s, int w, int behind) {
            int t = talk.deaf.get(s) ? 0 : behind;
            for (int v = 0; v < worlds.size(); v++) {
                if (left.get(t)[v] && like(s, v, w) && !so(fact, v, t)) {
                    return false;
                }
            }
            return true;
        }

        boolean so(Fact fact, int w, int behind) {
            byte[][] rows = found.computeIfAbsent(fact, f -> new byte[21][]);
            if (rows[behind] == null) {
                rows[behind] = new byte[worlds.size()];
            }
            if (rows[behind][w] == 0) {
                rows[behind][w] = (byte) (isSo(fact, w, behind) ? 2 : 1);
            }
            return rows[behind][w] == 2;
        }

        private boolean isSo(Fact fact, int w, int behind) {
            int sum = worlds.get(w)[0] + worlds.get(w)[1];
            switch (fact.kind) {
                case "not":
                    return !so(fact.parts.get(0), w, behind);
                case "or":
                    return so(fact.parts.get(0), w, behind) || so(fact.parts.get(1), w, behind);
                case "and":
                    return so(fact.parts.get(0), w, behind) && so(fact.parts.get(1), w, behind);
                case "knows":
                    return knows(left.get(talk.deaf.get(fact.n) ? 0 : behind), fact.n, w);
                case "sees":
                    return sees(fact.parts.get(0), fact.n, w, behind);
                case "was":
                    return so(fact.parts.get(0), w, fact.n > behind ? behind : fact.n);
                case "even":
                    return sum % 2 == 0;
                case "same":
                    return worlds.get(w)[0] == worlds.get(w)[1];
                default:
                    return sum > fact.n;
            }
        }

        boolean may(Fact fact, int s, int w, int behind) {
            return sees(fact, s, w, behind) != lies[s];
        }

        void say(Fact fact, int s) {
            int behind = left.size() - 1;
            boolean[] next = new boolean[worlds.size()];
            for (int w = 0; w < worlds.size(); w++) {
                next[w] = left.get(behind)[w] && may(fact, s, w, behind);
            }
            left.add(next);
        }

        Course sayAll() {
            for (int t = 0; t < talk.who.size(); t++) {
                say(talk.says.get(t), talk.who.get(t));
            }
            return this;
        }

        boolean[] last() {
            return left.get(left.size() - 1);
        }

        boolean[] answer(boolean[] leftNow, int s, boolean yes) {
            boolean[] next = new boolean[leftNow.length];
            for (int w = 0; w < leftNow.length; w++) {
                next[w] = leftNow[w] && knows(leftNow, s, w) == yes;
            }
            return next;
        }
    }

    private byte[] tape = {};
    private int fault;
    private int faultPlace = NONE;
    private Talk talk = new Talk();
    private Course course;
    private final Talk[] images = new Talk[3];
    private final int[] sorts = {NONE, NONE, NONE, NONE};
    private final long[][] trays = new long[4][];

    private static int howMany(boolean[] row) {
        int n = 0;
        for (boolean b : row) {
            n += b ? 1 : 0;
        }
        return n;
    }

    private static int nth(boolean[] row, int k) {
        for (int w = 0, seen = 0; w < row.length; w++) {
            if (row[w] && seen++ == k) {
                return w;
            }
        }
        return NONE;
    }

    private Course course() {
        if (course == null) {
            course = new Course(talk.worlds(talk.from, talk.to)).sayAll();
        }
        return course;
    }

    private List<int[]> worlds() {
        return course().worlds;
    }

    private int speakers() {
        return talk.sights.size();
    }

    private int turns() {
        return talk.who.size();
    }

    private void needWorld(int w) {
        if (w < 0 || w >= worlds().size()) {
            throw new NoSuchElementException();
        }
    }

    private void needSpeaker(int s) {
        if (s < 0 || s >= speakers()) {
            throw new NoSuchElementException();
        }
    }

    private void needTurn(int t) {
        if (t < 0 || t >= turns()) {
            throw new NoSuchElementException();
        }
    }

    private static void need(boolean fine) {
        if (!fine) {
            throw new IllegalArgumentException();
        }
    }

    private void needTray(int tray, boolean there) {
        if (tray < 0 || tray > 3) {
            throw new NoSuchElementException();
        }
        if (there && trays[tray] == null) {
            throw new IllegalStateException();
        }
    }

    // ---- the text: all tokens first, then a machine with a stack of what is still to come

    private static List<Token> tokens(String text) {
        List<Token> all = new ArrayList<>();
        int i = 0;
        while (i < text.length()) {
            char c = text.charAt(i);
            if (c == ' ' || c == '\n') {
                i++;
                continue;
            }
            int j = i;
            if (c >= 'a' && c <= 'z') {
                while (j < text.length() && text.charAt(j) >= 'a' && text.charAt(j) <= 'z') {
                    j++;
                }
                all.add(new Token(1, i, text.substring(i, j)));
            } else if (c >= '0' && c <= '9') {
                while (j < text.length() && text.charAt(j) >= '0' && text.charAt(j) <= '9') {
                    j++;
                }
                all.add(new Token(j - i > 3 ? 4 : 2, i, text.substring(i, j)));
            } else {
                j++;
                all.add(new Token(";()".indexOf(c) >= 0 ? 3 : 4, i, text.substring(i, j)));
            }
            i = j;
        }
        all.add(new Token(0, text.length(), ""));
        return all;
    }

    /** {fault, place}, or null. */
    private static int[] faultOf(List<Token> tokens) {
        Deque<String> toCome = new ArrayDeque<>();
        toCome.push("LINES");
        int speakers = 0;
        int turns = 0;
        int depth = 0;
        int from = 0;
        int at = 0;
        while (!toCome.isEmpty()) {
            Token t = tokens.get(at);
            String due = toCome.pop();
            if (due.equals("UP")) {
                depth--;
                continue;
            }
            if (t.kind == 4) {
                return new int[] {1, t.place};
            }
            String[] put = null;
            int f = 0;
            boolean eat = true;
            if (due.equals("LINES")) {
                if (t.kind == 0) {
                    continue;
                }
                if (t.is("numbers")) {
                    put = new String[] {"N1-60", "to", "M", ";", "LINES"};
                } else if (t.is("most")) {
                    put = new String[] {"N2-120", ";", "LINES"};
                } else if (t.is("unlike")) {
                    put = new String[] {";", "LINES"};
                } else if (t.is("speaker")) {
                    put = new String[] {"SIGHT", "liar?", "deaf?", ";", "LINES"};
                    f = ++speakers > 6 ? 4 : 0;
                } else if (t.is("say")) {
                    put = new String[] {"S", "SAYING", ";", "LINES"};
                    f = ++turns > 20 ? 4 : 0;
                } else {
                    f = 2;
                }
            } else if (due.equals("SAYING")) {
                eat = false;
                put = new String[] {"FACT", "MORE"};
            } else if (due.equals("MORE")) {
                eat = t.is("and") || t.is("or");
                put = eat ? new String[] {"FACT", "MORE"} : new String[0];
            } else if (due.equals("FACT")) {
                if (t.is("not")) {
                    put = new String[] {"FACT", "UP"};
                    f = ++depth > 8 ? 5 : 0;
                } else if (t.is("(")) {
                    put = new String[] {"SAYING", ")", "UP"};
                    f = ++depth > 8 ? 5 : 0;
                } else if (t.is("knows")) {
                    put = new String[] {"S"};
                } else if (t.is("sees")) {
                    put = new String[] {"S", "(", "SAYING", ")", "UP"};
                } else if (t.is("was")) {
                    put = new String[] {"N0-20", "(", "SAYING", ")", "UP"};
                } else if (t.is("above")) {
                    put = new String[] {"N0-120"};
                } else if (t.is("even") || t.is("same")) {
                    put = new String[0];
                } else {
                    f = 2;
                }
            } else if (due.equals("SIGHT")) {
                f = t.kind == 1 && SIGHTS.contains(t.text) ? 0 : 2;
            } else if (due.endsWith("?")) {
                eat = t.is(due.substring(0, due.length() - 1));
            } else if (due.equals("S") || due.equals("M") || due.startsWith("N")) {
                int low = due.equals("M") ? from : due.equals("S") ? 0 : Integer.parseInt(due.substring(1, due.indexOf('-')));
                int high = due.equals("M") ? 60 : due.equals("S") ? speakers - 1 : Integer.parseInt(due.substring(due.indexOf('-') + 1));
                f = t.kind != 2 ? 2 : t.number() < low || t.number() > high ? 3 : 0;
                from = f == 0 ? t.number() : from;
            } else {
                f = t.is(due) ? 0 : 2;
                if (f == 0 && due.equals("(")) {
                    f = ++depth > 8 ? 5 : 0;
                }
            }
            if (f != 0) {
                return new int[] {f, t.place};
            }
            for (int i = put == null ? -1 : put.length - 1; i >= 0; i--) {
                toCome.push(put[i]);
            }
            at += eat ? 1 : 0;
        }
        return null;
    }

    private static final class Builder {
        final List<Token> tokens;
        int at;

        Builder(List<Token> tokens) {
            this.tokens = tokens;
        }

        Token next() {
            return tokens.get(at++);
        }

        boolean eat(String t) {
            if (tokens.get(at).is(t)) {
                at++;
                return true;
            }
            return false;
        }

        Talk talk() {
            Talk talk = new Talk();
            while (tokens.get(at).kind != 0) {
                talk.lines++;
                if (eat("numbers")) {
                    talk.from = next().number();
                    next();
                    talk.to = next().number();
                } else if (eat("most")) {
                    talk.most = next().number();
                } else if (eat("unlike")) {
                    talk.unlike = true;
                } else if (eat("speaker")) {
                    talk.sights.add(SIGHTS.indexOf(next().text));
                    talk.liars.add(eat("liar"));
                    talk.deaf.add(eat("deaf"));
                } else {
                    next();
                    talk.who.add(next().number());
                    talk.says.add(saying());
                }
                next();
            }
            return talk;
        }

        Fact saying() {
            Fact f = part();
            while (eat("or")) {
                f = new Fact("or", 0, f, part());
            }
            return f;
        }

        Fact part() {
            Fact f = fact();
            while (eat("and")) {
                f = new Fact("and", 0, f, fact());
            }
            return f;
        }

        Fact fact() {
            Token t = next();
            switch (t.text) {
                case "not":
                    return new Fact("not", 0, fact());
                case "(": {
                    Fact f = saying();
                    next();
                    return f;
                }
                case "knows":
                case "above":
                    return new Fact(t.text, next().number());
                case "sees":
                case "was": {
                    int n = next().number();
                    next();
                    Fact f = new Fact(t.text, n, saying());
                    next();
                    return f;
                }
                default:
                    return new Fact(t.text, 0);
            }
        }
    }

    // ---- the face

    public int feed(int a, int b, int c, int d, int e) {
        if (tape.length + 20 > 900) {
            return NONE;
        }
        byte[] longer = Arrays.copyOf(tape, tape.length + 20);
        int[] five = {a, b, c, d, e};
        for (int i = 0; i < 20; i++) {
            longer[tape.length + i] = (byte) (five[i / 4] >>> (24 - 8 * (i % 4)));
        }
        tape = longer;
        return tape.length;
    }

    public int talk(int n) {
        need(n >= 0 && n <= tape.length);
        StringBuilder text = new StringBuilder();
        for (int i = 0; i < n; i++) {
            text.append((char) (tape[i] & 255));
        }
        tape = new byte[0];
        List<Token> tokens = tokens(text.toString());
        int[] itsFault = faultOf(tokens);
        fault = itsFault == null ? 0 : itsFault[0];
        faultPlace = itsFault == null ? NONE : itsFault[1];
        if (itsFault != null) {
            return -10 - fault;
        }
        talk = new Builder(tokens).talk();
        course = null;
        return talk.lines;
    }

    public int fault(int what) {
        return what == 0 ? fault : what == 1 ? faultPlace : NONE;
    }

    public int world(int w, int what) {
        needWorld(w);
        need(what == 0 || what == 1);
        return worlds().get(w)[what];
    }

    public int pair(int a, int b) {
        List<int[]> all = worlds();
        for (int w = 0; w < all.size(); w++) {
            int[] p = all.get(w);
            if (p[0] == a && p[1] == b || p[0] == b && p[1] == a) {
                return w;
            }
        }
        return NONE;
    }

    public int told(int s, int w) {
        needSpeaker(s);
        needWorld(w);
        return course().slip(s, w);
    }

    public int speaker(int s, int what) {
        needSpeaker(s);
        need(what >= 0 && what <= 3);
        int his = 0;
        for (int who : talk.who) {
            his += who == s ? 1 : 0;
        }
        return new int[] {talk.sights.get(s), talk.liars.get(s) ? 1 : 0, talk.deaf.get(s) ? 1 : 0, his}[what];
    }

    public int turn(int t) {
        needTurn(t);
        return talk.who.get(t);
    }

    public int left(int t) {
        need(t >= 0 && t <= turns());
        return howMany(course().left.get(t));
    }

    public int leftAt(int t, int k) {
        need(t >= 0 && t <= turns());
        return nth(course().left.get(t), k);
    }

    public boolean isLeft(int t, int w) {
        needWorld(w);
        need(t >= 0 && t <= turns());
        return course().left.get(t)[w];
    }

    public int only() {
        boolean[] last = course().last();
        return howMany(last) == 1 ? nth(last, 0) : NONE;
    }

    public boolean so(int turn, int w) {
        needTurn(turn);
        needWorld(w);
        return course().so(talk.says.get(turn), w, turn);
    }

    public boolean may(int turn, int w) {
        needTurn(turn);
        needWorld(w);
        return course().may(talk.says.get(turn), talk.who.get(turn), w, turn);
    }

    public int judge(int w) {
        needWorld(w);
        for (int t = 0; t < turns(); t++) {
            if (!may(t, w)) {
                return t;
            }
        }
        return NONE;
    }

    public boolean knows(int s, int w, int t) {
        needSpeaker(s);
        needWorld(w);
        need(t >= 0 && t <= turns());
        return course().knows(course().left.get(talk.deaf.get(s) ? 0 : t), s, w);
    }

    public int knowing(int s, int t) {
        needSpeaker(s);
        need(t >= 0 && t <= turns());
        int n = 0;
        for (int w = 0; w < worlds().size(); w++) {
            n += course().left.get(t)[w] && knows(s, w, t) ? 1 : 0;
        }
        return n;
    }

    public int heap(int s, int w, int t) {
        needSpeaker(s);
        needWorld(w);
        need(t >= 0 && t <= turns());
        int n = 0;
        for (int v = 0; v < worlds().size(); v++) {
            n += course().left.get(talk.deaf.get(s) ? 0 : t)[v] && course().like(s, v, w) ? 1 : 0;
        }
        return n;
    }

    public int strikes(int what) {
        need(what == 0 || what == 1);
        int best = NONE;
        int first = NONE;
        for (int t = 0; t < turns(); t++) {
            if (left(t) - left(t + 1) > best) {
                best = left(t) - left(t + 1);
                first = t;
            }
        }
        return what == 1 ? first : Math.max(best, 0);
    }

    public int ends(int from, int to) {
        need(from >= 1 && from <= 60 && to >= 1 && to <= 60 && from <= to);
        return howMany(new Course(talk.worlds(from, to)).sayAll().last());
    }

    public int upTo(int what) {
        need(what == 0 || what == 1);
        int found = NONE;
        for (int to = talk.from; to <= 60; to++) {
            if (ends(talk.from, to) == 1 && (what == 1 || found == NONE)) {
                found = to;
            }
        }
        return found;
    }

    private int[] mute(int one, int other) {
        Course c = course();
        boolean[] now = c.left.get(0);
        int[] end = new int[now.length];
        Arrays.fill(end, NONE);
        int still = 0;
        for (int turn = 0; still < 2; turn++) {
            int s = turn % 2 == 0 ? one : other;
            boolean[] next = c.answer(now, s, false);
            for (int w = 0; w < now.length; w++) {
                if (now[w] && !next[w]) {
                    end[w] = turn;
                }
            }
            still = howMany(next) < howMany(now) ? 0 : still + 1;
            now = next;
        }
        return end;
    }

    public int rest(int one, int other) {
        needSpeaker(one);
        needSpeaker(other);
        need(one != other);
        int n = 0;
        for (int end : mute(one, other)) {
            n += end == NONE ? 1 : 0;
        }
        return n;
    }

    public int when(int one, int other, int w) {
        needSpeaker(one);
        needSpeaker(other);
        needWorld(w);
        need(one != other);
        return mute(one, other)[w];
    }

    public int longest(int one, int other, int what) {
        needSpeaker(one);
        needSpeaker(other);
        need(one != other && (what == 0 || what == 1));
        int best = NONE;
        int first = NONE;
        int[] end = mute(one, other);
        for (int w = 0; w < end.length; w++) {
            if (end[w] > best) {
                best = end[w];
                first = w;
            }
        }
        return what == 0 ? best : first;
    }

    /** All rows of so many digits, in order. */
    private static List<int[]> rows(int digits, int base) {
        List<int[]> all = new ArrayList<>();
        all.add(new int[0]);
        for (int d = 0; d < digits; d++) {
            List<int[]> longer = new ArrayList<>();
            for (int[] row : all) {
                for (int v = 0; v < base; v++) {
                    int[] more = Arrays.copyOf(row, d + 1);
                    more[d] = v;
                    longer.add(more);
                }
            }
            all = longer;
        }
        return all;
    }

    private boolean fits(int[] row, int w, int wanted, int hidden) {
        Course c = course();
        boolean[] now = c.left.get(0);
        for (int i = 0; i <= row.length; i++) {
            if (i > 0) {
                now = c.answer(now, row[i - 1], c.knows(now, row[i - 1], w));
            }
            for (int s = 0; s < speakers(); s++) {
                if ((hidden >> s & 1) == 1 && c.knows(now, s, w)) {
                    return false;
                }
            }
        }
        for (int s = 0; s < speakers(); s++) {
            if ((wanted >> s & 1) == 1 && !c.knows(now, s, w)) {
                return false;
            }
        }
        return true;
    }

    public int soonest(int w, int wanted, int hidden, int k) {
        needWorld(w);
        for (int bit = 0; bit < 32; bit++) {
            need(bit < speakers() || ((wanted | hidden) >> bit & 1) == 0);
        }
        int[] row = course().soonest.computeIfAbsent(List.of(w, wanted, hidden), key -> soonestRow(w, wanted, hidden));
        return k == NONE ? row.length == 6 ? NONE : row.length : row.length < 6 && k >= 0 && k < row.length ? row[k] : NONE;
    }

    /** Six numbers stand for none. */
    private int[] soonestRow(int w, int wanted, int hidden) {
        for (int n = 0; n <= 5; n++) {
            for (int[] row : rows(n, speakers())) {
                if (fits(row, w, wanted, hidden)) {
                    return row;
                }
            }
        }
        return new int[6];
    }

    public int shortest(int n, int what) {
        need(n >= 1 && n <= 4);
        need(what == 0 || what == 1 || what >= 10 && what <= 13);
        Course c = course();
        for (int many = 0; many <= n; many++) {
            for (int[] row : rows(many, 2 * speakers())) {
                boolean[] now = c.left.get(0);
                for (int v : row) {
                    now = c.answer(now, v / 2, v % 2 == 1);
                }
                if (howMany(now) == 1) {
                    return what == 0 ? many : what == 1 ? nth(now, 0) : what - 10 < many ? row[what - 10] : NONE;
                }
            }
        }
        return NONE;
    }

    public int liar(int s) {
        needSpeaker(s);
        Course c = new Course(worlds());
        Arrays.fill(c.lies, false);
        c.lies[s] = true;
        return howMany(c.sayAll().last());
    }

    public int which() {
        int bits = 0;
        for (int s = 0; s < speakers(); s++) {
            bits += liar(s) == 1 ? 1 << s : 0;
        }
        return bits;
    }

    public int orders(int w, int k) {
        needWorld(w);
        if (turns() > 6) {
            return NONE;
        }
        int many = 0;
        int[] first = null;
        for (int[] row : rows(turns(), turns())) {
            if (Arrays.stream(row).distinct().count() < row.length) {
                continue;
            }
            Course c = new Course(worlds());
            for (int t : row) {
                c.say(talk.says.get(t), talk.who.get(t));
            }
            if (c.last()[w]) {
                many++;
                first = first == null ? row : first;
            }
        }
        return k == NONE ? many : first != null && k >= 0 && k < first.length ? first[k] : NONE;
    }

    public int mended(int what) {
        need(what >= 0 && what <= 2);
        for (int t = 0; t < turns(); t++) {
            for (int s = 0; s < speakers(); s++) {
                if (s != talk.who.get(t)) {
                    Course c = new Course(worlds());
                    for (int u = 0; u < turns(); u++) {
                        c.say(talk.says.get(u), u == t ? s : talk.who.get(u));
                    }
                    if (howMany(c.last()) == 1) {
                        return new int[] {t, s, nth(c.last(), 0)}[what];
                    }
                }
            }
        }
        return NONE;
    }

    public int answers(int tray, int what) {
        needTray(tray, true);
        need(what >= 0 && what <= 2);
        Course c = course();
        boolean[] now = c.left.get(0);
        int n = 0;
        while (n < trays[tray].length && trays[tray][n] >= 0 && trays[tray][n] / 2 < speakers()) {
            now = c.answer(now, (int) trays[tray][n] / 2, trays[tray][n] % 2 == 1);
            n++;
        }
        return new int[] {howMany(now), nth(now, 0), n}[what];
    }

    public void tray(int tray, int sort, int many) {
        needTray(tray, false);
        need(sort >= 0 && sort <= 3 && many >= 0 && many <= 40);
        sorts[tray] = sort;
        trays[tray] = new long[many];
    }

    private static long cut(int sort, long v) {
        int unused = 64 - (8 << sort);
        return v << unused >> unused;
    }

    public long write(int tray, int place, long v) {
        needTray(tray, true);
        if (place < 0 || place >= trays[tray].length) {
            throw new IndexOutOfBoundsException();
        }
        trays[tray][place] = cut(sorts[tray], v);
        return trays[tray][place];
    }

    public int pour(int tray) {
        needTray(tray, true);
        int n = 0;
        while (n < trays[tray].length && nth(course().last(), n) != NONE) {
            trays[tray][n] = cut(sorts[tray], nth(course().last(), n));
            n++;
        }
        return n;
    }

    public void image(int i) {
        if (i < 0 || i > 2) {
            throw new NoSuchElementException();
        }
        images[i] = talk;
    }

    public void restore(int i) {
        if (i < 0 || i > 2) {
            throw new NoSuchElementException();
        }
        if (images[i] == null) {
            throw new IllegalStateException();
        }
        talk = images[i];
        course = null;
    }

    public int count(int what) {
        if (what < 0 || what > 8) {
            return NONE;
        }
        return new int[] {talk.lines, talk.from, talk.to, talk.most, talk.unlike ? 1 : 0, speakers(), turns(),
            worlds().size(), tape.length}[what];
    }
}
