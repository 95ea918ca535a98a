import java.util.Random;

/**
 * SIGNS, GAME and SHARES held against what their sentences say by themselves: all orders tried,
 * all moves played to the end, all lesser gifts refused. (RandomRunsTest tries SIGNS of seven LINKS at most.)
 */
public final class DefinitionsTest {
    private static int best;
    private static int most;
    private static int[] first;

    public static void main(String[] args) {
        Random r = new Random(20261119);
        for (int i = 0; i < 150; i++) {
            signs(r, i);
        }
        signsWithoutLines();
        game();
        for (int i = 0; i < 300; i++) {
            shares(r, i);
        }
        Due.end("DefinitionsTest");
    }

    // ---- SIGNS

    private static void signs(Random r, int run) {
        int n = 6 + r.nextInt(4);
        int[] from = new int[n];
        int[] to = new int[n];
        int span = 20 + r.nextInt(100);
        StringBuilder s = new StringBuilder();
        TwelveChain x = new TwelveChain();
        for (int i = 0; i < n; i++) {
            x.link(5, 5, 5, 5);
            from[i] = r.nextInt(span);
            to[i] = from[i] + 8 + r.nextInt(30 + r.nextInt(60));
            s.append("link ").append(i).append(" from ").append(from[i]).append(" to ").append(to[i]).append(';');
        }
        Due.told(x, 2, s.toString(), n);
        best = -1;
        most = 0;
        first = null;
        tryAll(from, to, new int[n], 0, 0);
        Due.is("run " + run + " minute of " + s, x.signs(0), best);
        Due.is("run " + run + " how many of " + s, x.signs(1), most);
        for (int i = 0; i < 12; i++) {
            Due.is("run " + run + " place " + i + " of " + s, x.signs(10 + i), first == null || i >= n ? -1 : first[i]);
        }
    }

    /** Orders come LINK by LINK, the lesser one first: of several with the same minute the first one stays. */
    private static void tryAll(int[] from, int[] to, int[] order, int signed, int minute) {
        most = Math.max(most, signed);
        if (signed == from.length && (best < 0 || minute < best)) {
            best = minute;
            first = order.clone();
        }
        for (int i = 0; i < from.length; i++) {
            boolean has = false;
            for (int k = 0; k < signed; k++) {
                has |= order[k] == i;
            }
            int done = Math.max(minute, from[i]) + 10;
            if (!has && done <= to[i]) {
                order[signed] = i;
                tryAll(from, to, order, signed + 1, done);
            }
        }
    }

    /** LINKS without a line have the whole morning; PHONES stay right when LINKS come and THE IMAGE is gone back to. */
    private static void signsWithoutLines() {
        TwelveChain x = new TwelveChain();
        x.link(5, 5, 5, 5);
        x.link(5, 5, 5, 5);
        Due.told(x, 2, "link 0 from 5 to 15;", 1);
        Due.is("the other one must wait", x.signs(0), 25);
        Due.is("first", x.signs(10), 0);
        Due.so("taken", x.image(true));
        x.link(5, 5, 5, 5);
        Due.is("a third one", x.signs(0), 35);
        Due.is("all three", x.signs(1), 3);
        Due.is("the third one comes last", x.signs(12), 2);
        Due.told(x, 2, "link 2 from 0 to 10;", 1);
        Due.is("now none has to wait", x.signs(0), 30);
        Due.is("the third one is first", x.signs(10), 2);
        Due.so("gone back", x.image(false));
        Due.is("two again", x.signs(0), 25);
        Due.is("no third one", x.signs(12), -1);
    }

    // ---- GAME

    private static void game() {
        // 1 who begins wins, 2 loses, 0 not known yet; heaps of 0 to 9 as digits
        int[] known = new int[10000];
        for (int heaps = 0; heaps < 10000; heaps += 83) {
            TwelveChain x = fresh(heaps);
            int due = -1;
            int unit = 1000;
            for (int i = 0; i < 4 && due < 0; i++, unit /= 10) {
                for (int n = 1; n <= 3 && due < 0; n++) {
                    if (heaps / unit % 10 >= n && !wins(heaps - n * unit, known)) {
                        due = 10 * i + n;
                    }
                }
            }
            Due.is("the LINK of " + heaps, x.game(0), due < 0 ? -1 : due / 10);
            Due.is("how many of " + heaps, x.game(1), due < 0 ? -1 : due % 10);
        }
    }

    private static TwelveChain fresh(int heaps) {
        TwelveChain x = new TwelveChain();
        for (int unit = 1000; unit > 0; unit /= 10) {
            x.link(5, 5, 5, heaps / unit % 10);
        }
        return x;
    }

    /** Who can't take has lost: the other one took the last one of all. */
    private static boolean wins(int heaps, int[] known) {
        if (known[heaps] == 0) {
            known[heaps] = 2;
            for (int unit = 1; unit <= 1000; unit *= 10) {
                for (int n = 1; n <= 3; n++) {
                    if (heaps / unit % 10 >= n && !wins(heaps - n * unit, known)) {
                        known[heaps] = 1;
                    }
                }
            }
        }
        return known[heaps] == 1;
    }

    // ---- SHARES

    private static void shares(Random r, int run) {
        TwelveChain x = new TwelveChain();
        int count = 1 + r.nextInt(12);
        int[] worth = new int[count];
        int all = 0;
        int bound = r.nextInt(3) == 0 ? 999 : 1 + r.nextInt(40);
        for (int i = 0; i < count; i++) {
            worth[i] = r.nextInt(bound + 11) - 10;
            worth[i] = Math.min(999, worth[i]);
            x.link(5, 5, worth[i], 0);
            all += Math.max(0, worth[i]);
        }
        int n = Math.min(9999, r.nextInt(all + 2));
        String told = "run " + run + " share " + n;
        int sum = 0;
        int greatest = 0;
        for (int i = 0; i < count; i++) {
            int gift = x.share(n, i);
            if (n > all) {
                Due.is(told + " of less", gift, -1);
                continue;
            }
            Due.so(told + " none more than WORTH", gift >= 0 && gift <= Math.max(0, worth[i]));
            sum += gift;
            greatest = Math.max(greatest, gift);
        }
        if (n <= all) {
            Due.is(told + " together", sum, n);
            least(x, told, n, worth, greatest);
        }
    }

    /** With a lesser greatest gift it is not n; who gives the one more are the first of those who have it. */
    private static void least(TwelveChain x, String told, int n, int[] worth, int greatest) {
        int less = 0;
        boolean nobodyMore = false;
        for (int i = 0; i < worth.length; i++) {
            int most = Math.max(0, worth[i]);
            less += Math.min(most, Math.max(0, greatest - 1));
            int gift = x.share(n, i);
            Due.so(told + " a level or all", gift >= Math.min(most, greatest - 1));
            if (most >= greatest && greatest > 0) {
                Due.so(told + " by number", gift == greatest - 1 || !nobodyMore);
                nobodyMore |= gift < greatest;
            }
        }
        Due.so(told + " the greatest gift is least", greatest == 0 || less < n);
    }
}
