import java.util.Random;

/** Runs of 512 calls with whatever arguments: none throws, each comes to its end. */
public final class AnyCallsTest {
    private static final int[] ODD = {Integer.MIN_VALUE, Integer.MIN_VALUE + 1, -100000, -10000, -9999, -1000, -999, -2, -1, 0, 1, 2, 3, 9,
        10, 11, 12, 13, 16, 20, 21, 22, 30, 31, 60, 61, 99, 100, 149, 150, 151, 240, 241, 399, 400, 401, 600, 601, 999, 1000, 1001, 9999,
        10000, 999999, 1000000, 1000001, 1 << 16, 1 << 24, Integer.MAX_VALUE - 1, Integer.MAX_VALUE};
    private static final String[] LINES = {"ready price*price*price/3+lacks when not(link=0 or day>3)and worth<purse;", "leave 0-day*lacks;",
        "give worth*worth when bridged=1;", "cost 9999*9999*9999*9999;", "on 3 pay 0 1 99;", "on 0 bridge 1;", "on 1 ask 0 9;",
        "link 0 from 0 to 240;", "link 2 from 5 to 15;", "day 999 link 0;", "(", "not ", "0", ";", " "};
    private static Random r;

    public static void main(String[] args) {
        for (int run = 0; run < 1500; run++) {
            r = new Random(run);
            TwelveChain x = new TwelveChain();
            int links = r.nextInt(14);
            for (int i = 0; i < links; i++) {
                x.link(1 + r.nextInt(999), r.nextInt(20000) - 9999, r.nextInt(1999) - 999, r.nextInt(10));
            }
            for (int call = links; call < 512; call++) {
                int which = r.nextInt(45);
                try {
                    call(x, which);
                } catch (RuntimeException | StackOverflowError e) {
                    Due.so("run " + run + " call " + call + " of kind " + which + " throws nothing, but: " + e, false);
                }
            }
            Due.so("run " + run + " comes to its end", true);
        }
        dearest();
        Due.end("AnyCallsTest");
    }

    private static int a() {
        return r.nextInt(3) == 0 ? r.nextInt(13) : r.nextInt(3) == 0 ? r.nextInt() : ODD[r.nextInt(ODD.length)];
    }

    private static void call(TwelveChain x, int which) {
        switch (which) {
            case 0 -> x.state(a());
            case 1 -> x.link(a(), a(), a(), a());
            case 2 -> x.set(a(), a(), a());
            case 3 -> x.ask(a(), a());
            case 4 -> x.bridge(a());
            case 5 -> x.pay(a(), a(), a());
            case 6 -> x.paper(a());
            case 7 -> x.join(a());
            case 8 -> x.days(a());
            case 9 -> x.feed(a(), a(), a(), a(), a());
            case 10 -> x.end(a());
            case 11 -> x.text(a());
            case 12 -> x.fault(a());
            case 13 -> x.of(a(), a());
            case 14 -> x.phone(a(), a());
            case 15 -> x.book(a(), a());
            case 16 -> x.goes(a(), a());
            case 17 -> x.odds(a());
            case 18 -> x.holds(a(), a());
            case 19 -> x.many(a(), a());
            case 20 -> x.bridges(a(), a(), a());
            case 21 -> x.share(a(), a());
            case 22 -> x.along(a(), a(), a());
            case 23 -> x.choice(a(), a(), a(), a());
            case 24 -> x.bluff(a(), a(), a());
            case 25 -> x.signs(a());
            case 26 -> x.money(a(), a());
            case 27 -> x.ill(a(), a());
            case 28 -> x.wrote();
            case 29 -> x.slowest();
            case 30 -> x.game(a());
            case 31 -> x.soon(a());
            case 32 -> x.hurry(a(), a());
            case 33 -> x.split(a(), a());
            case 34 -> x.gap(a());
            case 35 -> x.runs(a());
            case 36 -> x.undo();
            case 37 -> x.image(r.nextBoolean());
            case 38 -> x.look(a());
            case 39 -> bytes(x);
            default -> lines(x);
        }
    }

    private static void bytes(TwelveChain x) {
        for (int i = r.nextInt(20); i > 0; i--) {
            x.feed(r.nextInt(), r.nextInt(), r.nextInt(), r.nextInt(), r.nextInt());
        }
        x.text(r.nextInt(4));
    }

    private static void lines(TwelveChain x) {
        StringBuilder s = new StringBuilder();
        for (int i = r.nextInt(9); i > 0; i--) {
            s.append(LINES[r.nextInt(LINES.length)]);
        }
        if (s.length() > 400) {
            s.setLength(400);
        }
        x.end(0);
        Due.tell(x, r.nextInt(4), s.toString());
    }

    /** The dearest calls, each as often as a run may have it. */
    private static void dearest() {
        TwelveChain x = new TwelveChain();
        for (int i = 0; i < 12; i++) {
            x.link(100, 100, 100, 9);
        }
        String line = "ready lacks*1 when lacks+lacks+lacks+lacks+lacks+lacks+lacks+lacks+lacks<0;";
        Due.tell(x, 0, line.repeat(5));
        for (int i = 0; i < 100; i++) {
            x.days(60);
            x.goes(99, 0);
            x.bridges(60, i, 0);
            x.signs(0);
            Due.tell(x, 2, "");
        }
        Due.is("sixty days a hundred times", x.look(1), 6000);
    }
}
