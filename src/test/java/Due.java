/** What the tests share: a text told to a new object, and answers held against those that are due. */
final class Due {
    private static int wrong;
    private static int asked;
    private static String about = "";

    private Due() {
    }

    interface Call {
        Object run();
    }

    /** An answer, or throws.Name. */
    static Object outcome(Call call) {
        try {
            return call.run();
        } catch (RuntimeException e) {
            return "throws." + e.getClass().getSimpleName();
        }
    }

    static int asked() {
        return asked;
    }

    /** Which sentence the next answers are asked for. */
    static void about(String sentence) {
        about = sentence + ": ";
    }

    static void is(String what, Object want, Call call) {
        Object got = outcome(call);
        asked++;
        if (!String.valueOf(want).equals(String.valueOf(got))) {
            wrong++;
            System.out.println(about + what + " answered " + got + ", due is " + want);
        }
    }

    static void noSuch(String what, Call call) {
        is(what, "throws.NoSuchElementException", call);
    }

    static void illegal(String what, Call call) {
        is(what, "throws.IllegalArgumentException", call);
    }

    static void illegalState(String what, Call call) {
        is(what, "throws.IllegalStateException", call);
    }

    static Object done(Runnable call) {
        call.run();
        return "done";
    }

    /** Puts a text on the tape, filled up with blanks to whole twenties. */
    static void feed(TwoSlips x, String text) {
        for (int i = 0; i < text.length(); i += 20) {
            int[] five = new int[5];
            for (int j = 0; j < 20; j++) {
                int c = i + j < text.length() ? text.charAt(i + j) & 255 : 32;
                five[j / 4] = five[j / 4] << 8 | c;
            }
            x.feed(five[0], five[1], five[2], five[3], five[4]);
        }
    }

    static int tell(TwoSlips x, String text) {
        feed(x, text);
        return x.talk(text.length());
    }

    /** A new object with a talk, which must have no fault. */
    static TwoSlips told(String text) {
        TwoSlips x = new TwoSlips();
        int lines = tell(x, text);
        if (lines < 0) {
            wrong++;
            System.out.println("fault " + lines + " at " + x.fault(1) + " in " + text);
        }
        return x;
    }

    static void end() {
        System.out.println(wrong == 0 ? asked + " answers are as due" : wrong + " answers are not as due");
        if (wrong != 0) {
            System.exit(1);
        }
    }
}
