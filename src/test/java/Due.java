/** Counts the answers that are not the ones that are due, and tells each. */
final class Due {
    private static int wrong = 0;
    private static int asked = 0;

    private Due() {
    }

    static void is(String call, long got, long want) {
        asked++;
        if (got != want) {
            wrong++;
            if (wrong <= 50) {
                System.out.println(call + " answered " + got + ", due is " + want);
            }
        }
    }

    static void is(String call, boolean got, boolean want) {
        is(call, got ? 1 : 0, want ? 1 : 0);
    }

    static void so(String what, boolean so) {
        is(what, so, true);
    }

    /** Puts a text on an empty TAPE: feed() in twenties, end() for what is too many. */
    static void put(TwelveChain x, String text) {
        for (int at = 0; at < text.length(); at += 20) {
            int[] five = new int[5];
            for (int i = 0; i < 20; i++) {
                int c = at + i < text.length() ? text.charAt(at + i) : ' ';
                five[i / 4] = five[i / 4] << 8 | c & 255;
            }
            x.feed(five[0], five[1], five[2], five[3], five[4]);
        }
        x.end(text.length());
    }

    static int tell(TwelveChain x, int k, String text) {
        put(x, text);
        return x.text(k);
    }

    /** A TEXT that is told with so many lines. */
    static void told(TwelveChain x, int k, String text, int lines) {
        is("text(" + k + ") of \"" + text + "\"", tell(x, k, text), lines);
        is("fault(0) behind \"" + text + "\"", x.fault(0), 0);
        is("fault(1) behind \"" + text + "\"", x.fault(1), -1);
    }

    /** A TEXT that has a FAULT at a place. */
    static void faulty(TwelveChain x, int k, String text, int fault, int place) {
        is("text(" + k + ") of \"" + text + "\"", tell(x, k, text), -1);
        is("fault(0) behind \"" + text + "\"", x.fault(0), fault);
        is("fault(1) behind \"" + text + "\"", x.fault(1), place);
    }

    static void end(String test) {
        System.out.println(test + ": " + asked + " answers, " + wrong + " not as due");
        if (wrong != 0) {
            System.exit(1);
        }
    }
}
