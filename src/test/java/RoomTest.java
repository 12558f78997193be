import java.lang.management.ManagementFactory;

/** What a run makes is counted: a new object is small, its rows are made once, and no question makes new ones. */
public final class RoomTest {
    private static final com.sun.management.ThreadMXBean THREADS =
        (com.sun.management.ThreadMXBean) ManagementFactory.getThreadMXBean();

    private static final String LARGE = "numbers 1 to 60;speaker sum;speaker product;speaker difference;speaker squares;speaker greater;"
        + "speaker digit liar deaf;";
    private static final String TALK = "say 0 not sees 1(knows 1) or even;say 1 not knows 1 or was 1(knows 0);say 2 not knows 0 or even;";

    private RoomTest() {
    }

    private static long made() {
        return THREADS.getThreadAllocatedBytes(Thread.currentThread().getId());
    }

    private static void askAll(TwoSlips x, int i) {
        int w = i * 37 % x.count(7);
        x.world(w, 0);
        x.pair(i % 70, 5);
        x.told(i % 6, w);
        x.leftAt(1, i);
        x.only();
        x.so(i % 3, w);
        x.may(i % 3, w);
        x.judge(w);
        x.knows(i % 6, w, 2);
        x.knowing(i % 6, 1);
        x.heap(i % 6, w, 3);
        x.ends(1 + i % 5, 30 + i % 31);
        x.upTo(i % 2);
        x.longest(i % 3, 3 + i % 3, 1);
        x.when(3 + i % 3, i % 3, w);
        x.soonest(w, 1 << i % 6, 1 << (i + 1) % 6, 0);
        x.shortest(1 + i % 4, 1);
        x.which();
        x.orders(w, 0);
        x.mended(2);
        x.pour(i % 4);
        x.answers(i % 4, 1);
    }

    private static int[] packed(String text) {
        int[] ints = new int[(text.length() + 19) / 20 * 5];
        for (int i = 0; i < 4 * ints.length; i++) {
            ints[i / 4] = ints[i / 4] << 8 | (i < text.length() ? text.charAt(i) : ' ');
        }
        return ints;
    }

    private static void retell(TwoSlips x, int[] ints, int length, int image) {
        for (int i = 0; i < ints.length; i += 5) {
            x.feed(ints[i], ints[i + 1], ints[i + 2], ints[i + 3], ints[i + 4]);
        }
        x.talk(length);
        x.image(image);
    }

    private static long bytesOfNew() {
        long before = made();
        TwoSlips x = new TwoSlips();
        long bytes = made() - before;
        return x.count(0) == 0 ? bytes : 0;
    }

    public static void main(String[] args) {
        int[] ints = packed(LARGE + TALK);
        for (int i = 0; i < 3; i++) {
            bytesOfNew();
        }
        long one = bytesOfNew();
        Due.is("a new object is small: " + one, true, () -> one < 16000);
        TwoSlips x = new TwoSlips();
        long start = made();
        retell(x, ints, (LARGE + TALK).length(), 0);
        for (int tray = 0; tray < 4; tray++) {
            x.tray(tray, tray, 40);
        }
        for (int i = 0; i < 22; i++) {
            askAll(x, i);
        }
        for (int i = 0; i < 6; i++) {
            retell(x, ints, (LARGE + TALK).length(), i % 3);
            x.restore(i % 3);
        }
        long whole = made() - start;
        Due.is("all rows of an object: " + whole, true, () -> whole < 300000);
        long again = made();
        for (int i = 0; i < 22; i++) {
            askAll(x, i + 5);
            retell(x, ints, (LARGE + TALK).length(), i % 3);
            x.restore(i % 3);
        }
        long more = made() - again;
        Due.is("nothing is made again: " + more, true, () -> more < 3000);
        System.out.println("bytes: new " + one + ", all rows " + whole + ", later " + more);
        Due.end();
    }
}
