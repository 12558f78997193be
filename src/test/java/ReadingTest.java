import java.util.Random;

/** Texts by the thousand, most of them with a fault somewhere: fault and place must be those that the oracle tells. */
public final class ReadingTest {
    private static final String[] WORDS = {"numbers", "most", "unlike", "speaker", "say", "to", "liar", "deaf", "sum", "product",
        "greater", "less", "difference", "squares", "odd", "digit", "nothing", "or", "and", "not", "knows", "sees", "was", "even", "same",
        "above", "(", ")", ";", "0", "1", "2", "5", "6", "19", "20", "21", "59", "60", "61", "119", "120", "121", "999", "1000", "000",
        "a", "nots", "kno", "differences", "x", "?", ",", "A", "\t", "\r", "\u0000", "\u007f", "\u0080", "\u00ff", "60000000000"};

    private final Random random;
    private final StringBuilder text = new StringBuilder();
    private final int carelessness;
    private int told;

    private ReadingTest(long seed) {
        random = new Random(seed);
        carelessness = 20 + random.nextInt(400);
    }

    private int below(int n) {
        return random.nextInt(n);
    }

    private void put(String token) {
        String real = below(carelessness) == 0 ? WORDS[below(WORDS.length)] : token;
        if (below(carelessness) == 0) {
            return;
        }
        boolean touches = text.length() > 0 && Character.isLetterOrDigit(text.charAt(text.length() - 1))
            && Character.isLetterOrDigit(real.charAt(0));
        if (touches || below(6) == 0) {
            text.append(below(5) == 0 ? "\n" : " ".repeat(1 + below(2)));
        }
        text.append(real);
    }

    private void putNumber(int low, int high) {
        int n = below(carelessness) == 0 ? low - 1 : below(carelessness) == 0 ? high + 1 : low + below(Math.max(1, high - low + 1));
        String digits = String.valueOf(Math.max(0, n));
        put(below(9) == 0 && digits.length() < 3 ? "0" + digits : digits);
    }

    private void fact(int depth) {
        int kind = depth < 10 && text.length() < 800 ? below(10) : 6 + below(4);
        if (kind < 2) {
            put("not");
            fact(depth + 1);
        } else if (kind < 5) {
            if (kind > 2) {
                put(kind == 3 ? "sees" : "was");
                putNumber(0, kind == 3 ? told - 1 : 20);
            }
            put("(");
            saying(depth + 1);
            put(")");
        } else if (kind < 7) {
            put("knows");
            putNumber(0, told - 1);
        } else if (kind < 8) {
            put("above");
            putNumber(0, 120);
        } else {
            put(kind == 8 ? "even" : "same");
        }
    }

    private void saying(int depth) {
        fact(depth);
        while (below(5) == 0 && text.length() < 800) {
            put(below(2) == 0 ? "and" : "or");
            fact(depth);
        }
    }

    private String make() {
        int lines = below(30);
        boolean brief = below(2) == 0;
        for (int i = 0; i < lines && text.length() < 850; i++) {
            int kind = below(12);
            if (kind == 0) {
                put("numbers");
                int from = 1 + below(60);
                putNumber(from, from);
                put("to");
                putNumber(from, 60);
            } else if (kind == 1) {
                put("most");
                putNumber(2, 120);
            } else if (kind == 2) {
                put("unlike");
            } else if (kind < 6 || told == 0) {
                if (told >= 6 && below(4) != 0) {
                    continue;
                }
                put("speaker");
                put(WORDS[8 + below(9)]);
                if (below(4) == 0) {
                    put("liar");
                }
                if (below(4) == 0) {
                    put("deaf");
                }
                told++;
            } else {
                put("say");
                putNumber(0, told - 1);
                if (brief) {
                    put("even");
                } else {
                    saying(0);
                }
            }
            put(";");
        }
        return text.length() > 900 ? text.substring(0, 900) : text.toString();
    }

    private static void feed(Oracle x, String text) {
        for (int i = 0; i < text.length(); i += 20) {
            int[] five = new int[5];
            for (int j = 0; j < 20; j++) {
                five[j / 4] = five[j / 4] << 8 | (i + j < text.length() ? text.charAt(i + j) & 255 : 32);
            }
            x.feed(five[0], five[1], five[2], five[3], five[4]);
        }
    }

    public static void main(String[] args) {
        int texts = args.length > 0 ? Integer.parseInt(args[0]) : 20000;
        int[] kinds = new int[6];
        TwoSlips got = new TwoSlips();
        Oracle want = new Oracle();
        for (int seed = 0; seed < texts; seed++) {
            String text = new ReadingTest(seed).make();
            feed(want, text);
            int due = want.talk(text.length());
            Due.is("talk of " + text, due, () -> Due.tell(got, text));
            Due.is("fault(0) of " + text, want.fault(0), () -> got.fault(0));
            Due.is("fault(1) of " + text, want.fault(1), () -> got.fault(1));
            for (int what = 0; what <= 6; what++) {
                int asked = what;
                Due.is("count(" + what + ") of " + text, want.count(what), () -> got.count(asked));
            }
            kinds[want.fault(0)]++;
        }
        for (int kind = 0; kind < kinds.length; kind++) {
            int asked = kind;
            Due.is("enough texts of fault " + kind, true, () -> kinds[asked] * 200 > texts);
        }
        System.out.println(java.util.Arrays.toString(kinds));
        Due.end();
    }
}
