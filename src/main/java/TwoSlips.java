import java.util.NoSuchElementException;

/**
 * Two numbers have been thought of; speakers are told something of them each and say by turns what they know.
 * A talk is told as a text; this class answers what it leaves, who knows what, and what other talks would leave.
 */
public final class TwoSlips {
    /** There is none. */
    public static final int NONE = -1;

    private static final int TAPE = 900;
    private static final int FED = 20;
    private static final int IMAGES = 3;
    private static final int TOP = 60;

    private final byte[] tape = new byte[TAPE];
    private int taped;
    private int faultKind;
    private int faultPlace = NONE;
    private final Reading reading = new Reading();
    // One for the talk, one for each image, one to read the next text into.
    private final Talk[] talks = new Talk[IMAGES + 2];
    private final Talk[] images = new Talk[IMAGES];
    private final Trays trays = new Trays();
    private Talk now = new Talk();
    // The large rows are made with the first question, so that a new object stays small.
    private Scene scene;

    public TwoSlips() {
        talks[0] = now;
    }

    // ---- the talk

    public int feed(int a, int b, int c, int d, int e) {
        if (taped + FED > TAPE) {
            return NONE;
        }
        putBytes(a);
        putBytes(b);
        putBytes(c);
        putBytes(d);
        putBytes(e);
        return taped;
    }

    private void putBytes(int four) {
        for (int shift = 24; shift >= 0 && taped < TAPE; shift -= 8) {
            tape[taped++] = (byte) (four >> shift);
        }
    }

    public int talk(int n) throws IllegalArgumentException {
        if (n < 0 || n > taped) {
            throw new IllegalArgumentException("not so many bytes on the tape");
        }
        Talk next = spareTalk();
        faultKind = reading.read(tape, next, n);
        faultPlace = faultKind == 0 ? NONE : reading.place();
        taped = 0;
        if (faultKind != 0) {
            return -10 - faultKind;
        }
        become(next);
        return next.lines;
    }

    private Talk spareTalk() {
        for (int i = 0; i < talks.length; i++) {
            if (talks[i] == null) {
                talks[i] = new Talk();
            }
            if (talks[i] != now && !isImaged(talks[i])) {
                return talks[i];
            }
        }
        return new Talk();
    }

    private boolean isImaged(Talk talk) {
        for (int i = 0; i < IMAGES; i++) {
            if (images[i] == talk) {
                return true;
            }
        }
        return false;
    }

    private void become(Talk talk) {
        now = talk;
        if (scene != null) {
            scene.forget();
        }
    }

    public int fault(int what) {
        switch (what) {
            case 0:
                return faultKind;
            case 1:
                return faultPlace;
            default:
                return NONE;
        }
    }

    public int world(int w, int what) throws NoSuchElementException, IllegalArgumentException {
        int pair = pairOf(w);
        if (what != 0 && what != 1) {
            throw new IllegalArgumentException("no such what");
        }
        return what == 0 ? view().pairs.lower(pair) : view().pairs.higher(pair);
    }

    public int pair(int a, int b) {
        return now.numberOf(Math.min(a, b), Math.max(a, b));
    }

    public int told(int s, int w) throws NoSuchElementException {
        checkSpeaker(s);
        int pair = pairOf(w);
        return view().pairs.slips[now.sight[s]][pair];
    }

    public int speaker(int s, int what) throws NoSuchElementException, IllegalArgumentException {
        checkSpeaker(s);
        switch (what) {
            case 0:
                return now.sight[s];
            case 1:
                return now.liars >> s & 1;
            case 2:
                return now.deaf >> s & 1;
            case 3:
                return now.turnsOf(s);
            default:
                throw new IllegalArgumentException("no such what");
        }
    }

    public int turn(int t) throws NoSuchElementException {
        checkTurn(t);
        return now.who[t];
    }

    // ---- left

    public int left(int t) throws IllegalArgumentException {
        checkBehind(t);
        return heard().howManyLeft(t);
    }

    public int leftAt(int t, int k) throws IllegalArgumentException {
        checkBehind(t);
        return heard().leftAtPlace(t, k);
    }

    public boolean isLeft(int t, int w) throws NoSuchElementException, IllegalArgumentException {
        int pair = pairOf(w);
        checkBehind(t);
        return heard().struckBy[pair] >= t;
    }

    public int only() {
        return heard().howManyLeft(now.turns) == 1 ? heard().leftAtPlace(now.turns, 0) : NONE;
    }

    public boolean so(int turn, int w) throws NoSuchElementException {
        checkTurn(turn);
        int pair = pairOf(w);
        return heard().isSo(turn, pair);
    }

    public boolean may(int turn, int w) throws NoSuchElementException {
        checkTurn(turn);
        int pair = pairOf(w);
        return heard().maySay(turn, pair);
    }

    public int judge(int w) throws NoSuchElementException {
        int pair = pairOf(w);
        int turn = heard().struckBy[pair];
        return turn < now.turns ? turn : NONE;
    }

    public boolean knows(int s, int w, int t) throws NoSuchElementException, IllegalArgumentException {
        checkSpeaker(s);
        int pair = pairOf(w);
        checkBehind(t);
        return heard().isKnown(s, pair, t);
    }

    public int knowing(int s, int t) throws NoSuchElementException, IllegalArgumentException {
        checkSpeaker(s);
        checkBehind(t);
        return heard().howManyKnown(s, t);
    }

    public int heap(int s, int w, int t) throws NoSuchElementException, IllegalArgumentException {
        checkSpeaker(s);
        int pair = pairOf(w);
        checkBehind(t);
        return heard().allLike(s, pair, t);
    }

    public int strikes(int what) throws IllegalArgumentException {
        if (what != 0 && what != 1) {
            throw new IllegalArgumentException("no such what");
        }
        Scene heard = heard();
        int most = 0;
        int first = now.turns == 0 ? NONE : 0;
        for (int t = 0; t < now.turns; t++) {
            int struck = heard.howManyLeft(t) - heard.howManyLeft(t + 1);
            if (struck > most) {
                most = struck;
                first = t;
            }
        }
        return what == 0 ? most : first;
    }

    public int ends(int from, int to) throws IllegalArgumentException {
        if (from < 1 || from > TOP || to < from || to > TOP) {
            throw new IllegalArgumentException("no such numbers");
        }
        return view().changes.leftBetween(from, to);
    }

    public int upTo(int what) throws IllegalArgumentException {
        if (what != 0 && what != 1) {
            throw new IllegalArgumentException("no such what");
        }
        return view().changes.goodEnd(what == 1);
    }

    // ---- I don't know

    public int rest(int one, int other) throws NoSuchElementException, IllegalArgumentException {
        checkTwo(one, other);
        return muteTalk(one, other).rest;
    }

    public int when(int one, int other, int w) throws NoSuchElementException, IllegalArgumentException {
        int pair = pairOf(w);
        checkTwo(one, other);
        return muteTalk(one, other).endOf[pair];
    }

    public int longest(int one, int other, int what) throws NoSuchElementException, IllegalArgumentException {
        checkTwo(one, other);
        switch (what) {
            case 0:
                return muteTalk(one, other).lastTurn;
            case 1:
                return numberOf(muteTalk(one, other).lastPair);
            default:
                throw new IllegalArgumentException("no such what");
        }
    }

    private Mute muteTalk(int one, int other) {
        Mute mute = view().mute;
        mute.between(one, other);
        return mute;
    }

    // ---- sought

    public int soonest(int w, int wanted, int hidden, int k) throws NoSuchElementException, IllegalArgumentException {
        int pair = pairOf(w);
        int others = -1 << now.speakers;
        if ((wanted & others) != 0 || (hidden & others) != 0) {
            throw new IllegalArgumentException("others than speakers");
        }
        Soonest soonest = view().soonest;
        soonest.seek(pair, wanted, hidden);
        if (k == NONE) {
            return soonest.turns;
        }
        return k >= 0 && k < soonest.turns ? soonest.speakers[k] : NONE;
    }

    public int shortest(int n, int what) throws IllegalArgumentException {
        int k = what - 10;
        boolean asksNumber = what >= 10 && k < Shortest.MOST;
        if (n < 1 || n > Shortest.MOST || what != 0 && what != 1 && !asksNumber) {
            throw new IllegalArgumentException("no such n or what");
        }
        Shortest shortest = view().shortest;
        shortest.seek(n);
        if (shortest.turns == NONE || shortest.turns > n) {
            return NONE;
        }
        if (what == 0) {
            return shortest.turns;
        }
        if (what == 1) {
            return numberOf(shortest.pair);
        }
        return k < shortest.turns ? shortest.numbers[k] : NONE;
    }

    public int liar(int s) throws NoSuchElementException {
        checkSpeaker(s);
        return view().changes.leftIfLying(s);
    }

    public int which() {
        int bits = 0;
        for (int s = 0; s < now.speakers; s++) {
            if (view().changes.leftIfLying(s) == 1) {
                bits |= 1 << s;
            }
        }
        return bits;
    }

    public int orders(int w, int k) throws NoSuchElementException {
        int pair = pairOf(w);
        if (now.turns > Changes.MOST_ORDERED) {
            return NONE;
        }
        Changes changes = view().changes;
        changes.arrange(pair);
        if (k == NONE) {
            return changes.orders;
        }
        return changes.orders > 0 && k >= 0 && k < now.turns ? changes.firstOrder[k] : NONE;
    }

    public int mended(int what) throws IllegalArgumentException {
        if (what < 0 || what > 2) {
            throw new IllegalArgumentException("no such what");
        }
        Changes changes = view().changes;
        changes.mend();
        switch (what) {
            case 0:
                return changes.mendedTurn;
            case 1:
                return changes.mendedSpeaker;
            default:
                return numberOf(changes.mendedPair);
        }
    }

    public int answers(int tray, int what) throws NoSuchElementException, IllegalStateException, IllegalArgumentException {
        checkFilled(tray);
        if (what < 0 || what > 2) {
            throw new IllegalArgumentException("no such what");
        }
        Asking asking = view().asking;
        int given = asking.follow(trays, tray);
        switch (what) {
            case 0:
                return asking.high - asking.low;
            case 1:
                return numberOf(asking.least());
            default:
                return given;
        }
    }

    // ---- trays, images

    public void tray(int tray, int sort, int many) throws NoSuchElementException, IllegalArgumentException {
        checkTray(tray);
        if (sort < 0 || sort >= Trays.SORTS || many < 0 || many > Trays.PLACES) {
            throw new IllegalArgumentException("no such sort, or not so many");
        }
        trays.lay(tray, sort, many);
    }

    public long write(int tray, int place, long v) throws NoSuchElementException, IllegalStateException, IndexOutOfBoundsException {
        checkFilled(tray);
        if (place < 0 || place >= trays.size(tray)) {
            throw new IndexOutOfBoundsException("no such place");
        }
        trays.put(tray, place, v);
        return trays.at(tray, place);
    }

    public int pour(int tray) throws NoSuchElementException, IllegalStateException {
        checkFilled(tray);
        Scene heard = heard();
        int poured = 0;
        for (int w = 0; w < heard.many && poured < trays.size(tray); w++) {
            if (heard.struckBy[heard.list[w]] >= now.turns) {
                trays.put(tray, poured++, w);
            }
        }
        return poured;
    }

    public void image(int i) throws NoSuchElementException {
        checkImage(i);
        images[i] = now;
    }

    public void restore(int i) throws NoSuchElementException, IllegalStateException {
        checkImage(i);
        Talk kept = images[i];
        if (kept == null) {
            throw new IllegalStateException("no image was made");
        }
        become(kept);
    }

    public int count(int what) {
        switch (what) {
            case 0:
                return now.lines;
            case 1:
                return now.from;
            case 2:
                return now.to;
            case 3:
                return now.most;
            case 4:
                return now.unlike ? 1 : 0;
            case 5:
                return now.speakers;
            case 6:
                return now.turns;
            case 7:
                return view().many;
            case 8:
                return taped;
            default:
                return NONE;
        }
    }

    // ---- what the calls share

    private Scene view() {
        if (scene == null) {
            scene = new Scene(new Pairs(), new int[Pairs.ALL], now);
        }
        scene.take(now);
        return scene;
    }

    /** The scene, the talk having been heard to its end. */
    private Scene heard() {
        Scene heard = view();
        heard.listen();
        return heard;
    }

    private int numberOf(int pair) {
        return pair == NONE ? NONE : now.numberOf(view().pairs.lower(pair), view().pairs.higher(pair));
    }

    private int pairOf(int w) {
        if (w < 0 || w >= view().many) {
            throw new NoSuchElementException("no such world");
        }
        return view().list[w];
    }

    private void checkSpeaker(int s) {
        if (s < 0 || s >= now.speakers) {
            throw new NoSuchElementException("no such speaker");
        }
    }

    private void checkTwo(int one, int other) {
        checkSpeaker(one);
        checkSpeaker(other);
        if (one == other) {
            throw new IllegalArgumentException("both are one");
        }
    }

    private void checkTurn(int t) {
        if (t < 0 || t >= now.turns) {
            throw new NoSuchElementException("no such turn");
        }
    }

    private void checkBehind(int t) {
        if (t < 0 || t > now.turns) {
            throw new IllegalArgumentException("not so many turns");
        }
    }

    private void checkTray(int tray) {
        if (tray < 0 || tray >= Trays.TRAYS) {
            throw new NoSuchElementException("no such tray");
        }
    }

    private void checkFilled(int tray) {
        checkTray(tray);
        if (trays.isMissing(tray)) {
            throw new IllegalStateException("the tray is missing");
        }
    }

    private void checkImage(int i) {
        if (i < 0 || i >= IMAGES) {
            throw new NoSuchElementException("no such image");
        }
    }

    /** A talk as it was read: numbers, speakers, turns; a saying is a tree of facts. */
    private static final class Talk {
        static final int SPEAKERS = 6;
        static final int TURNS = 20;
        // A fact has a word of its own: two letters and what parts it from the next, in 900 bytes.
        static final int FACTS = 300;

        static final int NOT = 0;
        static final int AND = 1;
        static final int OR = 2;
        static final int KNOWS = 3;
        static final int SEES = 4;
        static final int WAS = 5;
        static final int EVEN = 6;
        static final int SAME = 7;
        static final int ABOVE = 8;

        int lines;
        int from = 2;
        int to = 20;
        int most = 2 * TOP;
        boolean unlike;
        int speakers;
        int liars;
        int deaf;
        final int[] sight = new int[SPEAKERS];
        int turns;
        final int[] who = new int[TURNS];
        final int[] saying = new int[TURNS];
        int facts;
        final int[] kind = new int[FACTS];
        final int[] number = new int[FACTS];
        final int[] inner = new int[FACTS];
        final int[] next = new int[FACTS];

        void clear() {
            lines = 0;
            from = 2;
            to = 20;
            most = 2 * TOP;
            unlike = false;
            speakers = 0;
            liars = 0;
            deaf = 0;
            turns = 0;
            facts = 0;
        }

        int addFact(int itsKind, int itsNumber, int itsInner) {
            if (facts >= FACTS) {
                return NONE;
            }
            kind[facts] = itsKind;
            number[facts] = itsNumber;
            inner[facts] = itsInner;
            next[facts] = NONE;
            return facts++;
        }

        boolean isDeaf(int s) {
            return (deaf >> s & 1) != 0;
        }

        int turnsOf(int s) {
            int his = 0;
            for (int t = 0; t < turns; t++) {
                if (who[t] == s) {
                    his++;
                }
            }
            return his;
        }

        /** Whether an earlier speaker is told the same: his answers are those of this one. */
        boolean hasForerunner(int s) {
            for (int earlier = 0; earlier < s; earlier++) {
                if (sight[earlier] == sight[s]) {
                    return true;
                }
            }
            return false;
        }

        int lowestPartner(int x) {
            return unlike ? x + 1 : x;
        }

        /** The world of two numbers, the lower one first, or NONE. */
        int numberOf(int x, int y) {
            if (x < from || y > to || y < lowestPartner(x) || x + y > most) {
                return NONE;
            }
            int ahead = 0;
            for (int lower = from; lower < x; lower++) {
                ahead += Math.min(to, most - lower) - lowestPartner(lower) + 1;
            }
            return ahead + y - lowestPartner(x);
        }
    }

    /** Reads a text into a talk, token by token, up to its first fault. */
    private static final class Reading {
        private static final int END = 0;
        private static final int WORD = 1;
        private static final int NUMBER = 2;
        private static final int SIGN = 3;
        private static final int STRANGE = 4;

        private static final int NO_TOKEN = 1;
        private static final int MISPLACED = 2;
        private static final int OUT_OF_BOUNDS = 3;
        private static final int TOO_MANY = 4;
        private static final int TOO_DEEP = 5;
        private static final int DEEPEST = 8;
        private static final int DIGITS = 3;

        private byte[] text = {};
        private int length;
        private int start;
        private int stop;
        private int kind;
        private int value;
        private int fault;
        private Talk talk;

        /** Reads the first n bytes: the fault, or 0. */
        int read(byte[] tape, Talk into, int n) {
            text = tape;
            talk = into;
            talk.clear();
            length = Math.min(n, text.length);
            stop = 0;
            fault = 0;
            step();
            for (int i = 0; i <= TAPE && kind != END; i++) {
                if (!readLine() || !readSign(';')) {
                    return fault;
                }
                talk.lines++;
            }
            return fault;
        }

        int place() {
            return start;
        }

        private void step() {
            while (stop < length && (text[stop] == 10 || text[stop] == 32)) {
                stop++;
            }
            start = stop;
            if (stop >= length) {
                kind = END;
                return;
            }
            int c = text[start];
            if (c >= 'a' && c <= 'z') {
                kind = WORD;
                while (stop < length && text[stop] >= 'a' && text[stop] <= 'z') {
                    stop++;
                }
            } else if (c >= '0' && c <= '9') {
                value = 0;
                while (stop < length && text[stop] >= '0' && text[stop] <= '9') {
                    value = stop - start < DIGITS ? 10 * value + text[stop] - '0' : value;
                    stop++;
                }
                kind = stop - start > DIGITS ? STRANGE : NUMBER;
            } else {
                kind = c == ';' || c == '(' || c == ')' ? SIGN : STRANGE;
                stop++;
            }
        }

        private boolean isWord(String word) {
            if (kind != WORD || stop - start != word.length()) {
                return false;
            }
            for (int i = 0; i < word.length(); i++) {
                if (text[start + i] != word.charAt(i)) {
                    return false;
                }
            }
            return true;
        }

        private boolean isSign(int sign) {
            return kind == SIGN && text[start] == sign;
        }

        private boolean fail(int itsFault) {
            fault = kind == STRANGE ? NO_TOKEN : itsFault;
            return false;
        }

        private boolean readSign(int sign) {
            if (!isSign(sign)) {
                return fail(MISPLACED);
            }
            step();
            return true;
        }

        private boolean readWord(String word) {
            if (!isWord(word)) {
                return fail(MISPLACED);
            }
            step();
            return true;
        }

        /** The number that stands here, or NONE and a fault. */
        private int readNumber(int low, int high) {
            if (kind != NUMBER) {
                fail(MISPLACED);
                return NONE;
            }
            if (value < low || value > high) {
                fail(OUT_OF_BOUNDS);
                return NONE;
            }
            int number = value;
            step();
            return number;
        }

        private boolean readLine() {
            if (isWord("numbers")) {
                return readNumbers();
            }
            if (isWord("most")) {
                step();
                talk.most = readNumber(2, 2 * TOP);
                return fault == 0;
            }
            if (isWord("unlike")) {
                step();
                talk.unlike = true;
                return true;
            }
            if (isWord("speaker")) {
                return readSpeaker();
            }
            if (isWord("say")) {
                return readTurn();
            }
            return fail(MISPLACED);
        }

        private boolean readNumbers() {
            step();
            talk.from = readNumber(1, TOP);
            if (fault != 0 || !readWord("to")) {
                return false;
            }
            talk.to = readNumber(talk.from, TOP);
            return fault == 0;
        }

        private boolean readSpeaker() {
            int s = talk.speakers;
            if (s >= Talk.SPEAKERS) {
                return fail(TOO_MANY);
            }
            step();
            int sight = sightHere();
            if (sight == NONE) {
                return fail(MISPLACED);
            }
            step();
            if (isWord("liar")) {
                step();
                talk.liars |= 1 << s;
            }
            if (isWord("deaf")) {
                step();
                talk.deaf |= 1 << s;
            }
            talk.sight[s] = sight;
            talk.speakers = s + 1;
            return true;
        }

        private int sightHere() {
            for (int sight = 0; sight < Pairs.SIGHTS; sight++) {
                if (isWord(Pairs.nameOf(sight))) {
                    return sight;
                }
            }
            return NONE;
        }

        private boolean readTurn() {
            int t = talk.turns;
            if (t >= Talk.TURNS) {
                return fail(TOO_MANY);
            }
            step();
            int s = readNumber(0, talk.speakers - 1);
            if (s == NONE) {
                return false;
            }
            int saying = readSaying(0);
            if (saying == NONE) {
                return false;
            }
            talk.who[t] = s;
            talk.saying[t] = saying;
            talk.turns = t + 1;
            return true;
        }

        /** The tree of a saying with so many of not, ( open around it, or NONE and a fault. */
        private int readSaying(int depth) {
            return readJoined(Talk.OR, "or", depth);
        }

        /** Parts joined by or, or facts joined by and; a single one stands for itself. */
        private int readJoined(int itsKind, String word, int depth) {
            int head = itsKind == Talk.OR ? readJoined(Talk.AND, "and", depth) : readFact(depth);
            if (head == NONE || !isWord(word)) {
                return head;
            }
            int last = head;
            for (int i = 0; i < TAPE && isWord(word); i++) {
                step();
                int part = itsKind == Talk.OR ? readJoined(Talk.AND, "and", depth) : readFact(depth);
                if (part == NONE) {
                    return NONE;
                }
                talk.next[last] = part;
                last = part;
            }
            return grow(itsKind, 0, head);
        }

        private int readFact(int depth) {
            if (isWord("not")) {
                return readNot(depth);
            }
            if (isSign('(')) {
                return readEnclosed(depth);
            }
            if (isWord("knows")) {
                return readNumbered(Talk.KNOWS, talk.speakers - 1);
            }
            if (isWord("sees")) {
                return readAround(Talk.SEES, talk.speakers - 1, depth);
            }
            if (isWord("was")) {
                return readAround(Talk.WAS, Talk.TURNS, depth);
            }
            if (isWord("above")) {
                return readNumbered(Talk.ABOVE, 2 * TOP);
            }
            if (isWord("even")) {
                step();
                return grow(Talk.EVEN, 0, NONE);
            }
            if (isWord("same")) {
                step();
                return grow(Talk.SAME, 0, NONE);
            }
            fail(MISPLACED);
            return NONE;
        }

        private int readNot(int depth) {
            if (depth >= DEEPEST) {
                fail(TOO_DEEP);
                return NONE;
            }
            step();
            int fact = readFact(depth + 1);
            return fact == NONE ? NONE : grow(Talk.NOT, 0, fact);
        }

        private int readEnclosed(int depth) {
            if (isSign('(') && depth >= DEEPEST) {
                fail(TOO_DEEP);
                return NONE;
            }
            if (!readSign('(')) {
                return NONE;
            }
            int saying = readSaying(depth + 1);
            return saying != NONE && readSign(')') ? saying : NONE;
        }

        private int readNumbered(int itsKind, int high) {
            step();
            int number = readNumber(0, high);
            return number == NONE ? NONE : grow(itsKind, number, NONE);
        }

        private int readAround(int itsKind, int high, int depth) {
            step();
            int number = readNumber(0, high);
            if (number == NONE) {
                return NONE;
            }
            int saying = readEnclosed(depth);
            return saying == NONE ? NONE : grow(itsKind, number, saying);
        }

        private int grow(int itsKind, int number, int inner) {
            int fact = talk.addFact(itsKind, number, inner);
            if (fact == NONE) {
                fail(TOO_MANY);
            }
            return fact;
        }
    }

    /** All pairs of the numbers 1 to 60, by the lower one, then the higher: what each sight tells of them. */
    private static final class Pairs {
        static final int ALL = TOP * (TOP + 1) / 2;
        static final int SIGHTS = 9;
        static final int SUM = 0;
        static final int GREATER = 2;
        static final int LESS = 3;
        private static final int SLIPS = 2 * TOP * TOP + 1;
        private static final int HIGH_MARK = 1000000000;

        // By sight, then pair; empty until it is learnt.
        final int[][] slips = new int[SIGHTS][0];
        // By slip: below mark it is not met, at mark once (or blamed), at mark + 1 more often.
        final int[] met = new int[SLIPS];
        int mark;
        // By pair: a bit for each fact that is weighed at the time.
        final int[] truths = new int[ALL];

        static String nameOf(int sight) {
            switch (sight) {
                case SUM:
                    return "sum";
                case 1:
                    return "product";
                case GREATER:
                    return "greater";
                case LESS:
                    return "less";
                case 4:
                    return "difference";
                case 5:
                    return "squares";
                case 6:
                    return "odd";
                case 7:
                    return "digit";
                default:
                    return "nothing";
            }
        }

        private static int slipOf(int sight, int x, int y) {
            switch (sight) {
                case SUM:
                    return x + y;
                case 1:
                    return x * y;
                case GREATER:
                    return y;
                case LESS:
                    return x;
                case 4:
                    return y - x;
                case 5:
                    return x * x + y * y;
                case 6:
                    return (x + y) % 2;
                case 7:
                    return (x + y) % 10;
                default:
                    return 0;
            }
        }

        /** Makes the slips of all sights that a talk's speakers have, and of those that facts go by. */
        void learnFor(Talk talk) {
            learn(SUM);
            learn(GREATER);
            learn(LESS);
            for (int s = 0; s < talk.speakers; s++) {
                learn(talk.sight[s]);
            }
        }

        private void learn(int sight) {
            if (slips[sight].length == ALL) {
                return;
            }
            int[] row = new int[ALL];
            slips[sight] = row;
            int pair = 0;
            for (int x = 1; x <= TOP; x++) {
                for (int y = x; y <= TOP && pair < ALL; y++) {
                    row[pair++] = slipOf(sight, x, y);
                }
            }
        }

        int lower(int pair) {
            return slips[LESS][pair];
        }

        int higher(int pair) {
            return slips[GREATER][pair];
        }

        /** Puts the worlds that a talk would have between other ends into a row: how many. */
        static int fill(int[] row, Talk talk, int from, int to) {
            int many = 0;
            for (int x = from; x <= to; x++) {
                int ahead = (x - 1) * (2 * TOP + 2 - x) / 2 - x;
                int top = Math.min(to, talk.most - x);
                for (int y = talk.lowestPartner(x); y <= top && many < row.length; y++) {
                    row[many++] = ahead + y;
                }
            }
            return many;
        }

        /** Keeps the mark low enough for any one call to come, whatever came before. */
        void lowerMark() {
            if (mark >= HIGH_MARK) {
                for (int i = 0; i < met.length; i++) {
                    met[i] = 0;
                }
                mark = 0;
            }
        }

        /** Meets the slips of the pairs from low on, below high: how many came just once. */
        int meet(int[] row, int low, int high, int[] slip) {
            mark += 2;
            int once = 0;
            for (int i = low; i < high; i++) {
                int s = slip[row[i]];
                if (met[s] < mark) {
                    met[s] = mark;
                    once++;
                } else if (met[s] == mark) {
                    met[s] = mark + 1;
                    once--;
                }
            }
            return once;
        }

        /** Puts those of a stretch whose slips were met just once behind the others: where they begin. */
        int partKnown(int[] row, int low, int high, int[] slip) {
            int middle = low;
            for (int i = low; i < high; i++) {
                int pair = row[i];
                if (met[slip[pair]] != mark) {
                    row[i] = row[middle];
                    row[middle++] = pair;
                }
            }
            return middle;
        }

        boolean isMet(int slip) {
            return met[slip] >= mark;
        }

        boolean isMetOnce(int slip) {
            return met[slip] == mark;
        }

        /** Meets the slips of those of the first pairs of a row in which a fact is not so. */
        void blame(int[] row, int many, int bit, int[] slip) {
            mark += 2;
            for (int i = 0; i < many; i++) {
                if ((truths[row[i]] & bit) == 0) {
                    met[slip[row[i]]] = mark;
                }
            }
        }
    }

    /** The worlds of the talk, what its turns leave of them, and all who seek in them; each finds out only what is asked. */
    private static final class Scene {
        final Pairs pairs;
        final int[] list = new int[Pairs.ALL];
        int many;
        // By pair: the turn that strikes it; how many turns there are, if none does.
        final int[] struckBy = new int[Pairs.ALL];
        final Changes changes;
        final Mute mute;
        final Asking asking;
        final Soonest soonest;
        final Shortest shortest;
        private final Hearing hearing;
        private Talk talk;
        private boolean taken;
        private boolean listened;

        /** What is sought by trying never stands open twice at once: one row for trials serves all of it. */
        Scene(Pairs pairs, int[] trial, Talk talk) {
            this.pairs = pairs;
            this.talk = talk;
            hearing = new Hearing(pairs, new int[Pairs.ALL], talk);
            changes = new Changes(new Hearing(pairs, trial, talk), talk);
            mute = new Mute(pairs, trial, talk);
            Asking one = new Asking(pairs, trial, talk);
            asking = one;
            soonest = new Soonest(one);
            shortest = new Shortest(one);
        }

        void forget() {
            taken = false;
        }

        void take(Talk now) {
            pairs.lowerMark();
            if (taken) {
                return;
            }
            taken = true;
            listened = false;
            talk = now;
            many = Pairs.fill(list, talk, talk.from, talk.to);
            pairs.learnFor(talk);
            changes.take(talk);
            mute.take(talk);
            asking.take(talk);
            soonest.forget();
            shortest.forget();
        }

        void listen() {
            if (listened) {
                return;
            }
            listened = true;
            hearing.begin(talk, talk.from, talk.to);
            for (int t = 0; t < talk.turns; t++) {
                hearing.say(t, talk.who[t], talk.liars);
            }
            int place = 0;
            for (int t = talk.turns; t >= 0; t--) {
                for (int i = place; i < hearing.left[t]; i++) {
                    struckBy[hearing.row[i]] = t;
                }
                place = hearing.left[t];
            }
        }

        int howManyLeft(int t) {
            return hearing.left[t];
        }

        int leftAtPlace(int t, int k) {
            if (k < 0 || k >= hearing.left[t]) {
                return NONE;
            }
            int met = 0;
            for (int w = 0; w < many; w++) {
                if (struckBy[list[w]] >= t && met++ == k) {
                    return w;
                }
            }
            return NONE;
        }

        boolean isSo(int turn, int pair) {
            return hearing.isSo(turn, pair, struckBy[pair] >= turn);
        }

        boolean maySay(int turn, int pair) {
            int s = talk.who[turn];
            hearing.blame(turn, s, turn);
            return hearing.allows(s, pair, talk.liars);
        }

        /** How many worlds behind t turns, as far as he hears them, are like a pair to a speaker. */
        int allLike(int s, int pair, int t) {
            int[] slip = pairs.slips[talk.sight[s]];
            int standing = hearing.left[talk.isDeaf(s) ? 0 : t];
            int alike = 0;
            for (int i = 0; i < standing; i++) {
                if (slip[hearing.row[i]] == slip[pair]) {
                    alike++;
                }
            }
            return alike;
        }

        boolean isKnown(int s, int pair, int t) {
            boolean stands = struckBy[pair] >= (talk.isDeaf(s) ? 0 : t);
            return allLike(s, pair, t) == (stands ? 1 : 0);
        }

        int howManyKnown(int s, int t) {
            int[] slip = pairs.slips[talk.sight[s]];
            pairs.meet(hearing.row, 0, hearing.left[talk.isDeaf(s) ? 0 : t], slip);
            int known = 0;
            for (int i = 0; i < hearing.left[t]; i++) {
                if (pairs.isMetOnce(slip[hearing.row[i]])) {
                    known++;
                }
            }
            return known;
        }
    }

    /** What is left of some worlds while turns are said, one behind the other. */
    private static final class Hearing {
        // Of nine sayings around one another each may have an or, an and, and what stands around the next.
        private static final int DEEPEST = 30;

        private final Pairs pairs;
        // The first left[t] of the row are left behind t turns: a turn only reorders those ahead of it.
        final int[] row;
        final int[] left = new int[Talk.TURNS + 1];
        private Talk talk;
        private int turns;

        Hearing(Pairs pairs, int[] row, Talk talk) {
            this.pairs = pairs;
            this.row = row;
            this.talk = talk;
        }

        void begin(Talk now, int from, int to) {
            talk = now;
            left[0] = Pairs.fill(row, talk, from, to);
            turns = 0;
        }

        /** As it was behind fewer turns. */
        void goBack(int t) {
            turns = Math.min(t, turns);
        }

        /** The turns that are still to come, as they are told: how many worlds they leave. */
        int goOn(int liars) {
            for (int t = turns; t < talk.turns; t++) {
                say(t, talk.who[t], liars);
            }
            return left[turns];
        }

        /** A told turn's saying, said by a speaker as the next one. */
        void say(int turn, int s, int liars) {
            if (turns >= Talk.TURNS) {
                return;
            }
            if (left[turns] == 0) {
                turns++;
                left[turns] = 0;
                return;
            }
            blame(turn, s, turns);
            strike(s, (liars >> s & 1) != 0);
        }

        /** Says it, if it may be said in a world: whether it was. */
        boolean sayWhereAllowed(int turn, int pair) {
            int s = talk.who[turn];
            blame(turn, s, turns);
            if (turns >= Talk.TURNS || !allows(s, pair, talk.liars)) {
                return false;
            }
            strike(s, (talk.liars >> s & 1) != 0);
            return true;
        }

        /** Blames the slips of a speaker with which he can't be sure of a turn's saying behind so many turns. */
        void blame(int turn, int s, int behind) {
            int heard = talk.isDeaf(s) ? 0 : behind;
            weigh(talk.saying[turn], heard, left[heard], 1, 0);
            pairs.blame(row, left[heard], 1, pairs.slips[talk.sight[s]]);
        }

        /** Whether a speaker may say in a world what was blamed last. */
        boolean allows(int s, int pair, int liars) {
            boolean sure = !pairs.isMet(pairs.slips[talk.sight[s]][pair]);
            return sure != ((liars >> s & 1) != 0);
        }

        /** Whether a turn's saying is so in a pair ahead of it; a pair that was struck is weighed with all of them. */
        boolean isSo(int turn, int pair, boolean stands) {
            weigh(talk.saying[turn], turn, left[stands ? turn : 0], 1, 0);
            return (pairs.truths[pair] & 1) != 0;
        }

        private void strike(int s, boolean lies) {
            int[] slip = pairs.slips[talk.sight[s]];
            int[] met = pairs.met;
            int mark = pairs.mark;
            int many = left[turns];
            int kept = 0;
            for (int i = 0; i < many; i++) {
                int pair = row[i];
                if (met[slip[pair]] < mark != lies) {
                    row[i] = row[kept];
                    row[kept++] = pair;
                }
            }
            turns++;
            left[turns] = kept;
        }

        /** Weighs a fact behind so many turns, in the first pairs of the row: the bit of their truths tells whether it is so. */
        private void weigh(int fact, int behind, int many, int bit, int depth) {
            // A text in which facts stand as deep in one another as this is never taken.
            if (depth > DEEPEST) {
                return;
            }
            int number = talk.number[fact];
            int inner = talk.inner[fact];
            switch (talk.kind[fact]) {
                case Talk.NOT:
                    weigh(inner, behind, many, bit, depth + 1);
                    turnOver(many, bit);
                    break;
                case Talk.AND:
                case Talk.OR:
                    weighParts(fact, behind, many, bit, depth + 1);
                    break;
                case Talk.KNOWS:
                    weighKnows(number, left[talk.isDeaf(number) ? 0 : behind], many, bit);
                    break;
                case Talk.SEES:
                    weighSees(fact, talk.isDeaf(number) ? 0 : behind, many, bit, depth + 1);
                    break;
                case Talk.WAS:
                    weigh(inner, Math.min(number, behind), many, bit, depth + 1);
                    break;
                default:
                    weighPlain(talk.kind[fact], number, many, bit);
                    break;
            }
        }

        private void turnOver(int many, int bit) {
            int[] truths = pairs.truths;
            for (int i = 0; i < many; i++) {
                truths[row[i]] ^= bit;
            }
        }

        private void weighParts(int fact, int behind, int many, int bit, int depth) {
            int[] truths = pairs.truths;
            boolean all = talk.kind[fact] == Talk.AND;
            int part = talk.inner[fact];
            weigh(part, behind, many, bit, depth);
            part = talk.next[part];
            for (int p = 0; p < Talk.FACTS && part != NONE; p++) {
                weigh(part, behind, many, bit << 1, depth);
                for (int i = 0; i < many; i++) {
                    int both = truths[row[i]];
                    int other = both >> 1 & bit;
                    truths[row[i]] = all ? both & (~bit | other) : both | other;
                }
                part = talk.next[part];
            }
        }

        private void weighKnows(int s, int standing, int many, int bit) {
            int[] slip = pairs.slips[talk.sight[s]];
            pairs.meet(row, 0, standing, slip);
            int[] met = pairs.met;
            int mark = pairs.mark;
            int[] truths = pairs.truths;
            for (int i = 0; i < many; i++) {
                int pair = row[i];
                int times = met[slip[pair]];
                boolean alone = i < standing ? times == mark : times < mark;
                truths[pair] = alone ? truths[pair] | bit : truths[pair] & ~bit;
            }
        }

        private void weighSees(int fact, int behind, int many, int bit, int depth) {
            int[] slip = pairs.slips[talk.sight[talk.number[fact]]];
            weigh(talk.inner[fact], behind, left[behind], bit, depth);
            pairs.blame(row, left[behind], bit, slip);
            int[] met = pairs.met;
            int mark = pairs.mark;
            int[] truths = pairs.truths;
            for (int i = 0; i < many; i++) {
                int pair = row[i];
                truths[pair] = met[slip[pair]] < mark ? truths[pair] | bit : truths[pair] & ~bit;
            }
        }

        private void weighPlain(int kind, int number, int many, int bit) {
            int[] truths = pairs.truths;
            int[] sum = pairs.slips[Pairs.SUM];
            int[] lower = pairs.slips[Pairs.LESS];
            for (int i = 0; i < many; i++) {
                int pair = row[i];
                boolean is;
                if (kind == Talk.EVEN) {
                    is = (sum[pair] & 1) == 0;
                } else if (kind == Talk.SAME) {
                    is = sum[pair] == 2 * lower[pair];
                } else {
                    is = sum[pair] > number;
                }
                truths[pair] = is ? truths[pair] | bit : truths[pair] & ~bit;
            }
        }
    }

    /** What the talk would leave with other ends, other liars, another speaker of a turn, another order. */
    private static final class Changes {
        static final int MOST_ORDERED = 6;
        private static final int UNSOUGHT = -2;

        private final Hearing hearing;
        private Talk talk;
        private int firstEnd;
        private int lastEnd;
        private final int[] leftByLiar = new int[Talk.SPEAKERS];
        private boolean mendingSought;
        int mendedTurn;
        int mendedSpeaker;
        int mendedPair;
        private int orderedPair;
        int orders;
        final int[] firstOrder = new int[MOST_ORDERED];
        private final int[] order = new int[MOST_ORDERED];

        Changes(Hearing hearing, Talk talk) {
            this.hearing = hearing;
            this.talk = talk;
        }

        void take(Talk now) {
            talk = now;
            firstEnd = UNSOUGHT;
            lastEnd = UNSOUGHT;
            for (int s = 0; s < Talk.SPEAKERS; s++) {
                leftByLiar[s] = UNSOUGHT;
            }
            mendingSought = false;
            orderedPair = NONE;
        }

        int leftBetween(int from, int to) {
            hearing.begin(talk, from, to);
            return hearing.goOn(talk.liars);
        }

        /** The first upper end, or the last one, by which just one would be left. */
        int goodEnd(boolean last) {
            int known = last ? lastEnd : firstEnd;
            if (known != UNSOUGHT) {
                return known;
            }
            int found = NONE;
            for (int i = talk.from; i <= TOP && found == NONE; i++) {
                int to = last ? TOP + talk.from - i : i;
                hearing.begin(talk, talk.from, to);
                if (hearing.goOn(talk.liars) == 1) {
                    found = to;
                }
            }
            if (last) {
                lastEnd = found;
            } else {
                firstEnd = found;
            }
            return found;
        }

        int leftIfLying(int s) {
            if (leftByLiar[s] == UNSOUGHT) {
                hearing.begin(talk, talk.from, talk.to);
                leftByLiar[s] = hearing.goOn(1 << s);
            }
            return leftByLiar[s];
        }

        void mend() {
            if (mendingSought) {
                return;
            }
            mendingSought = true;
            mendedTurn = NONE;
            mendedSpeaker = NONE;
            mendedPair = NONE;
            hearing.begin(talk, talk.from, talk.to);
            for (int t = 0; t < talk.turns; t++) {
                for (int s = 0; s < talk.speakers; s++) {
                    hearing.goBack(t);
                    hearing.say(t, s, talk.liars);
                    if (s != talk.who[t] && hearing.goOn(talk.liars) == 1) {
                        mendedTurn = t;
                        mendedSpeaker = s;
                        mendedPair = hearing.row[0];
                        return;
                    }
                }
                hearing.goBack(t);
                hearing.say(t, talk.who[t], talk.liars);
            }
        }

        /** Finds the orders of at most six turns by which a pair is left. */
        void arrange(int pair) {
            if (orderedPair == pair || talk.turns > MOST_ORDERED) {
                return;
            }
            orderedPair = pair;
            orders = 0;
            hearing.begin(talk, talk.from, talk.to);
            arrangeFrom(0, 0);
        }

        private void arrangeFrom(int depth, int used) {
            if (depth >= talk.turns) {
                if (orders == 0) {
                    System.arraycopy(order, 0, firstOrder, 0, depth);
                }
                orders++;
                return;
            }
            for (int t = 0; t < talk.turns; t++) {
                if ((used >> t & 1) == 0) {
                    order[depth] = t;
                    hearing.goBack(depth);
                    if (hearing.sayWhereAllowed(t, orderedPair)) {
                        arrangeFrom(depth + 1, used | 1 << t);
                    }
                }
            }
        }
    }

    /** Two speakers who say by turns that they don't know. */
    private static final class Mute {
        private final Pairs pairs;
        private final int[] row;
        private Talk talk;
        private int one;
        private int other;
        // By pair: behind how many turns it ends.
        final int[] endOf = new int[Pairs.ALL];
        int rest;
        int lastTurn;
        int lastPair;

        Mute(Pairs pairs, int[] row, Talk talk) {
            this.pairs = pairs;
            this.row = row;
            this.talk = talk;
        }

        void take(Talk now) {
            talk = now;
            one = NONE;
            other = NONE;
        }

        void between(int first, int second) {
            if (first == one && second == other) {
                return;
            }
            one = first;
            other = second;
            rest = Pairs.fill(row, talk, talk.from, talk.to);
            for (int i = 0; i < rest; i++) {
                endOf[row[i]] = NONE;
            }
            lastTurn = NONE;
            lastPair = NONE;
            int idle = 0;
            // Of two turns one strikes at least one pair, else it is over.
            for (int turn = 0; turn <= 2 * Pairs.ALL && idle < 2; turn++) {
                int[] slip = pairs.slips[talk.sight[turn % 2 == 0 ? one : other]];
                if (pairs.meet(row, 0, rest, slip) == 0) {
                    idle++;
                } else {
                    idle = 0;
                    endTurn(turn, slip);
                }
            }
        }

        private void endTurn(int turn, int[] slip) {
            int before = rest;
            rest = pairs.partKnown(row, 0, before, slip);
            lastTurn = turn;
            lastPair = row[rest];
            for (int i = rest; i < before; i++) {
                endOf[row[i]] = turn;
                lastPair = Math.min(lastPair, row[i]);
            }
        }
    }

    /** Answers, whether he knows or not, one behind the other. */
    private static final class Asking {
        final Pairs pairs;
        final int[] row;
        Talk talk;
        // What is left stands in the row from low on, below high.
        int low;
        int high;

        Asking(Pairs pairs, int[] row, Talk talk) {
            this.pairs = pairs;
            this.row = row;
            this.talk = talk;
        }

        void take(Talk now) {
            talk = now;
        }

        void begin() {
            low = 0;
            high = Pairs.fill(row, talk, talk.from, talk.to);
        }

        /** The row of answers in a tray: how many there were. */
        int follow(Trays trays, int tray) {
            begin();
            for (int i = 0; i < trays.size(tray); i++) {
                long number = trays.at(tray, i);
                if (number < 0 || number >= 2 * talk.speakers) {
                    return i;
                }
                int[] slip = pairs.slips[talk.sight[(int) (number / 2)]];
                pairs.meet(row, low, high, slip);
                int known = pairs.partKnown(row, low, high, slip);
                if (number % 2 == 0) {
                    high = known;
                } else {
                    low = known;
                }
            }
            return trays.size(tray);
        }

        int least() {
            int least = NONE;
            for (int i = low; i < high; i++) {
                if (least == NONE || row[i] < least) {
                    least = row[i];
                }
            }
            return least;
        }
    }

    /** The soonest answers in a world by which some know, while others never do. */
    private static final class Soonest {
        private static final int MOST = 5;

        private final Asking asking;
        private int pair = NONE;
        private int wanted;
        private int hidden;
        private int limit;
        private boolean cut;
        int turns;
        final int[] speakers = new int[MOST];

        Soonest(Asking asking) {
            this.asking = asking;
        }

        void forget() {
            pair = NONE;
        }

        void seek(int itsPair, int itsWanted, int itsHidden) {
            if (pair == itsPair && wanted == itsWanted && hidden == itsHidden) {
                return;
            }
            pair = itsPair;
            wanted = itsWanted;
            hidden = itsHidden;
            turns = NONE;
            asking.begin();
            int all = asking.high;
            int knowing = knowingAtFirst(all);
            if ((knowing & hidden) != 0) {
                return;
            }
            if ((knowing & wanted) == wanted) {
                turns = 0;
                return;
            }
            cut = true;
            for (limit = 1; limit <= MOST && turns == NONE && cut; limit++) {
                cut = false;
                if (reach(0, 0, all, NONE)) {
                    turns = limit;
                }
            }
        }

        private int knowingAtFirst(int all) {
            int bits = 0;
            for (int s = 0; s < asking.talk.speakers; s++) {
                int[] slip = asking.pairs.slips[asking.talk.sight[s]];
                asking.pairs.meet(asking.row, 0, all, slip);
                if (asking.pairs.isMetOnce(slip[pair])) {
                    bits |= 1 << s;
                }
            }
            return bits;
        }

        /** Whether turns up to the limit, the first ones having left what stands from low on, below high, bring it about. */
        private boolean reach(int depth, int low, int high, int last) {
            Talk talk = asking.talk;
            for (int s = 0; s < talk.speakers; s++) {
                // An answer that strikes nothing is in no soonest row; nobody has news right behind himself.
                if (s == last || talk.hasForerunner(s)) {
                    continue;
                }
                int[] slip = asking.pairs.slips[talk.sight[s]];
                int known = asking.pairs.meet(asking.row, low, high, slip);
                boolean knows = asking.pairs.isMetOnce(slip[pair]);
                if (known == (knows ? high - low : 0) || anyLearns(low, high, slip, knows)) {
                    continue;
                }
                speakers[depth] = s;
                if (depth + 1 >= limit) {
                    cut = true;
                    if (allLearn(low, high, slip, knows)) {
                        return true;
                    }
                    continue;
                }
                int middle = asking.pairs.partKnown(asking.row, low, high, slip);
                if (reach(depth + 1, knows ? middle : low, knows ? high : middle, s)) {
                    return true;
                }
            }
            return false;
        }

        private boolean anyLearns(int low, int high, int[] slip, boolean knows) {
            for (int s = 0; s < asking.talk.speakers; s++) {
                if ((hidden >> s & 1) != 0 && learns(s, low, high, slip, knows)) {
                    return true;
                }
            }
            return false;
        }

        private boolean allLearn(int low, int high, int[] slip, boolean knows) {
            for (int s = 0; s < asking.talk.speakers; s++) {
                if ((wanted >> s & 1) != 0 && !learns(s, low, high, slip, knows)) {
                    return false;
                }
            }
            return true;
        }

        /** Whether a speaker knows in the world behind the answer for which slips were met last. */
        private boolean learns(int s, int low, int high, int[] slip, boolean knows) {
            int[] his = asking.pairs.slips[asking.talk.sight[s]];
            int[] row = asking.row;
            for (int i = low; i < high; i++) {
                int like = row[i];
                if (his[like] == his[pair] && like != pair && asking.pairs.isMetOnce(slip[like]) == knows) {
                    return false;
                }
            }
            return true;
        }
    }

    /** The shortest answers that leave just one world. */
    private static final class Shortest {
        static final int MOST = 4;

        private final Asking asking;
        private int limit;
        private int soughtTo = NONE;
        int turns = NONE;
        int pair = NONE;
        final int[] numbers = new int[MOST];

        Shortest(Asking asking) {
            this.asking = asking;
        }

        void forget() {
            soughtTo = NONE;
            turns = NONE;
            pair = NONE;
        }

        void seek(int n) {
            if (turns != NONE || soughtTo >= n) {
                return;
            }
            asking.begin();
            int all = asking.high;
            if (soughtTo == NONE && all == 1) {
                turns = 0;
                pair = asking.row[0];
            }
            soughtTo = Math.max(soughtTo, 0);
            for (limit = soughtTo + 1; limit <= n && limit <= MOST && turns == NONE; limit++) {
                if (single(0, 0, all, NONE)) {
                    turns = limit;
                }
                soughtTo = limit;
            }
        }

        /** Whether answers up to the limit, the first ones having left what stands from low on, below high, leave just one. */
        private boolean single(int depth, int low, int high, int last) {
            Talk talk = asking.talk;
            for (int s = 0; s < talk.speakers; s++) {
                if (s == last || talk.hasForerunner(s)) {
                    continue;
                }
                int[] slip = asking.pairs.slips[talk.sight[s]];
                int known = asking.pairs.meet(asking.row, low, high, slip);
                // An answer that strikes nothing, or all, is in no shortest row.
                if (known == 0 || known == high - low) {
                    continue;
                }
                boolean ends = depth + 1 >= limit;
                if (ends && known != 1) {
                    // Who doesn't know has two at least: only an answer that he knows leaves one.
                    continue;
                }
                int middle = asking.pairs.partKnown(asking.row, low, high, slip);
                if (ends) {
                    numbers[depth] = 2 * s + 1;
                    pair = asking.row[middle];
                    return true;
                }
                numbers[depth] = 2 * s;
                if (single(depth + 1, low, middle, s)) {
                    return true;
                }
                numbers[depth] = 2 * s + 1;
                if (single(depth + 1, middle, high, s)) {
                    return true;
                }
            }
            return false;
        }
    }

    /** Rows of numbers that are cut to so many bits. */
    private static final class Trays {
        static final int TRAYS = 4;
        static final int SORTS = 4;
        static final int PLACES = 40;

        private final int[] sorts = {NONE, NONE, NONE, NONE};
        private final int[] sizes = new int[TRAYS];
        private final long[] cells = new long[TRAYS * PLACES];

        boolean isMissing(int tray) {
            return sorts[tray] == NONE;
        }

        int size(int tray) {
            return sizes[tray];
        }

        void lay(int tray, int sort, int many) {
            sorts[tray] = sort;
            sizes[tray] = many;
            for (int i = 0; i < PLACES; i++) {
                cells[tray * PLACES + i] = 0;
            }
        }

        long at(int tray, int place) {
            return cells[tray * PLACES + place];
        }

        void put(int tray, int place, long v) {
            cells[tray * PLACES + place] = cut(sorts[tray], v);
        }

        private static long cut(int sort, long v) {
            switch (sort) {
                case 0:
                    return (byte) v;
                case 1:
                    return (short) v;
                case 2:
                    return (int) v;
                default:
                    return v;
            }
        }
    }
}
