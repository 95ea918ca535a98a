/** The bounds that "Terms" 4 names, sentence by sentence: at the bound and just beyond it. */
public final class ThoughtBoundsTest {
    public static void main(String[] args) {
        goes();
        goesOn();
        odds();
        holds();
        many();
        bridges();
        bridgesOfTwelve();
        shares();
        along();
        choice();
        bluff();
        windows();
        twelveSign();
        orders();
        money();
        ill();
        wrote();
        slowest();
        game();
        soon();
        hurry();
        split();
        runs();
        Due.end("ThoughtBoundsTest");
    }

    private static TwelveChain chain(int links) {
        TwelveChain x = new TwelveChain();
        for (int i = 0; i < links; i++) {
            x.link(100, i == 0 ? 100 : 0, 40, 1);
        }
        return x;
    }

    private static void ready(TwelveChain x, int... ones) {
        for (int i : ones) {
            x.set(4, i, 1);
        }
    }

    /** LINKS of which one is OUT, one DAY on, none READY. */
    private static TwelveChain out(int links, int who) {
        TwelveChain x = chain(links);
        Due.tell(x, 0, "ready 0;leave 1000 when day=0 and link=" + who + ";");
        x.days(1);
        Due.tell(x, 0, "");
        Due.is("one is OUT", x.of(who, 5), 1);
        return x;
    }

    /** Three LINKS, 1 BRIDGED, 0 MOVED on DAY 0, none else READY. */
    private static TwelveChain moved() {
        TwelveChain x = chain(3);
        x.bridge(1);
        ready(x, 0, 1);
        Due.tell(x, 0, "ready 0;cost 0;");
        x.days(1);
        x.set(4, 1, 0);
        Due.tell(x, 0, "");
        Due.is("the lowest one has moved", x.look(3), 1);
        return x;
    }

    /** "a LINK gets READY, if ready is 500 at least, is OUT, if leave is 500 at least"; "for n (1 .. 99) DAYS" */
    private static void goes() {
        int[][] due = {{499, 0, 0}, {500, 3, 0}, {501, 3, 0}, {0, 0, 0}, {1000, 3, 0}};
        for (int[] d : due) {
            TwelveChain x = chain(3);
            Due.told(x, 0, "ready " + d[0] + ";", 1);
            Due.is("moved at ready " + d[0], x.goes(1, 0), d[1]);
            Due.is("moved by day 99 at ready " + d[0], x.goes(99, 0), d[1]);
            Due.is("the day at ready " + d[0], x.goes(99, 1), d[1] == 3 ? 0 : -1);
        }
        int[][] falls = {{499, 0}, {500, 3}, {1000, 3}};
        for (int[] d : falls) {
            TwelveChain x = chain(3);
            Due.told(x, 0, "ready 1000;leave " + d[0] + ";", 2);
            Due.is("falls at leave " + d[0], x.goes(1, 2), d[1]);
            Due.is("falls by day 99 at leave " + d[0], x.goes(99, 2), d[1]);
            Due.is("moved at leave " + d[0], x.goes(99, 0), 3 - d[1]);
        }
        TwelveChain x = chain(2);
        Due.told(x, 0, "ready 1000 when day=98;ready 0;", 2);
        Due.is("98 days", x.goes(98, 0), 0);
        Due.is("98 days: not all", x.goes(98, 1), -1);
        Due.is("99 days", x.goes(99, 0), 2);
        Due.is("99 days: the day", x.goes(99, 1), 98);
        Due.is("100 days", x.goes(100, 0), -2);
        Due.is("0 days", x.goes(0, 1), -2);
        Due.is("no links: how many", chain(0).goes(99, 0), 0);
        Due.is("no links: the day", chain(0).goes(99, 1), -1);
        Due.is("no links: falls", chain(0).goes(99, 2), 0);
        Due.is("no links: what 3", chain(0).goes(99, 3), -2);
    }

    /** It goes on from what is: those MOVED before, FALLS before; the latest DAY of all of them. */
    private static void goesOn() {
        TwelveChain x = moved();
        Due.told(x, 0, "ready 1000 when day=5;ready 0;cost 0;", 3);
        Due.is("one has moved before", x.goes(1, 0), 1);
        Due.is("one has moved before: not all", x.goes(1, 1), -1);
        Due.is("all have moved", x.goes(5, 0), 3);
        Due.is("the latest of them", x.goes(5, 1), 5);
        Due.is("the first five days", x.goes(4, 0), 1);
        ready(x, 1, 2);
        x.days(1);
        Due.is("all moved before", x.goes(1, 1), 1);
        TwelveChain y = out(3, 1);
        Due.is("a fall before", y.goes(1, 2), 1);
        Due.told(y, 0, "leave 1000;", 1);
        Due.is("two more", y.goes(9, 2), 3);
        // at the last DAY there still is a thought
        TwelveChain z = chain(1);
        z.set(4, 0, 0);
        Due.told(z, 0, "ready 0;", 1);
        for (int i = 0; i < 166; i++) {
            z.days(60);
        }
        z.days(39);
        Due.told(z, 0, "ready 1000;", 1);
        Due.is("goes at day 9999", z.goes(1, 0), 1);
        Due.is("days at day 9999", z.days(1), -1);
    }

    /** "d times as much as (1000 less ready) by 1000 of it, downwards each time"; "(0 as soon as one is OUT, READY or not)" */
    private static void odds() {
        TwelveChain x = chain(1);
        int[][] due = {{0, 1, 0}, {0, 60, 0}, {1000, 1, 1000000}, {1000, 60, 1000000}, {1, 1, 1000}, {1, 2, 1999}, {1, 3, 2998}, {999, 1, 999000},
            {999, 2, 999999}, {999, 3, 1000000}, {500, 1, 500000}, {500, 7, 992188}, {500, 20, 1000000}, {500, 19, 999999}};
        for (int[] d : due) {
            Due.told(x, 0, "ready " + d[0] + ";", 1);
            Due.is("odds of " + d[1] + " at ready " + d[0], x.odds(d[1]), d[2]);
            Due.is("holds of " + d[1] + " at ready " + d[0], x.holds(d[1], 1), d[2]);
        }
        // LINK by LINK, downwards: 999999 of a million twelve times over
        TwelveChain y = chain(12);
        Due.told(y, 0, "ready 999;", 1);
        Due.is("odds of twelve", y.odds(2), 999988);
        Due.is("odds of twelve in 1", y.odds(1), twelfth(999000));
        for (int i = 0; i < 12; i++) {
            Due.is("odds with " + i + " READY", y.odds(1), power(999000, 12 - i));
            ready(y, i);
        }
        Due.is("odds of none", y.odds(1), 1000000);
        for (int who = 0; who < 3; who++) {
            TwelveChain z = out(3, who);
            Due.is("odds with one OUT", z.odds(60), 0);
            ready(z, 0, 1, 2);
            Due.is("odds with one OUT, all READY", z.odds(60), 0);
            z.join(who);
            ready(z, who);
            Due.is("odds when it came in again", z.odds(60), 1000000);
        }
        TwelveChain m = moved();
        ready(m, 1, 2);
        Due.is("odds with one MOVED and READY", m.odds(1), 1000000);
        m.set(4, 0, 0);
        Due.is("odds with one MOVED and not READY", m.odds(1), 270000);
    }

    private static int power(long each, int times) {
        long all = 1000000;
        for (int i = 0; i < times; i++) {
            all = all * each / 1000000;
        }
        return (int) all;
    }

    private static int twelfth(long each) {
        return power(each, 12);
    }

    private static void holds() {
        TwelveChain x = chain(12);
        Due.is("of several the least", x.holds(1, 0), 0);
        x.set(3, 11, 2);
        Due.is("the last one", x.holds(1, 0), 11);
        Due.is("the last one: how likely", x.holds(1, 1), 240000);
        ready(x, 11);
        x.set(3, 0, 0);
        Due.is("a READY one holds none up", x.holds(1, 0), 1);
        for (int i = 0; i < 11; i++) {
            ready(x, i);
        }
        Due.is("all are READY", x.holds(1, 0), -1);
        Due.is("all are READY: how likely", x.holds(1, 1), -1);
        x.set(4, 7, 0);
        Due.is("one is not", x.holds(1, 0), 7);
        // as likely in 60 DAYS, though not in one
        TwelveChain y = chain(2);
        Due.told(y, 0, "ready 900-100*link;", 1);
        Due.is("in one day", y.holds(1, 0), 1);
        Due.is("in sixty days alike", y.holds(60, 0), 0);
        Due.is("in sixty days: how likely", y.holds(60, 1), 1000000);
        Due.is("no links", chain(0).holds(1, 0), -1);
    }

    /** "how many LINKS (0 .. 60) at most ... with 500000 at least (likewise)" */
    private static void many() {
        TwelveChain x = new TwelveChain();
        int[][] due = {{0, 1, 0}, {0, 60, 0}, {499, 1, 0}, {500, 1, 1}, {1000, 1, 60}, {1000, 60, 60}, {707, 1, 1}, {708, 1, 2}, {793, 1, 2},
            {794, 1, 3}, {1, 60, 0}, {11, 60, 0}, {12, 60, 1}, {988, 1, 57}, {989, 1, 60}, {990, 1, 60}, {293, 2, 1}, {292, 2, 0}};
        for (int[] d : due) {
            long left = 1000000;
            for (int i = 0; i < d[1]; i++) {
                left = left * (1000 - d[0]) / 1000;
            }
            int n = 0;
            while (n < 60 && power(1000000 - left, n + 1) >= 500000) {
                n++;
            }
            Due.is("many by hand: " + d[0] + " " + d[1], n, d[2]);
            Due.is("many " + d[0] + " " + d[1], x.many(d[0], d[1]), d[2]);
        }
    }

    private static void bridges() {
        TwelveChain x = chain(3);
        ready(x, 0, 1, 2);
        Due.is("h 1000000, all READY", x.bridges(60, 1000000, 1), 0);
        x.set(4, 1, 0);
        Due.told(x, 0, "ready 999;", 1);
        Due.is("h beyond what one day gives", x.bridges(1, 999001, 1), -1);
        Due.is("h as one day gives", x.bridges(1, 999000, 1), 0);
        Due.is("h 1000000 in two days", x.bridges(2, 1000000, 1), -1);
        Due.is("h 1000000 in three days", x.bridges(3, 1000000, 1), 0);
        Due.is("h 0", x.bridges(1, 0, 1), 0);
        Due.is("h 0: sum", x.bridges(1, 0, 0), 0);
        TwelveChain y = out(4, 1);
        Due.is("one OUT: h 0", y.bridges(1, 0, 1), 0);
        Due.is("one OUT: h 1", y.bridges(60, 1, 1), -1);
        Due.is("one OUT: h 1, sum", y.bridges(60, 1, 0), -1);
        TwelveChain z = chain(2);
        Due.is("two links: none can be bridged", z.bridges(1, 72900, 1), 0);
        Due.is("two links: by none", z.bridges(1, 72901, 1), -1);
        // one that is MOVED can't be bridged, one that is BRIDGED parts all the same
        TwelveChain m = moved();
        ready(m, 0);
        Due.is("the part above a bridged one", m.bridges(1, 72900, 1), 0);
        Due.is("no more can be", m.bridges(1, 72901, 0), -1);
        // the sum is d times cost: at 60 days and cost 99
        TwelveChain c = chain(4);
        Due.told(c, 0, "ready 10;cost 99;", 2);
        int two = power(1000000 - left(10, 60), 2);
        Due.is("the greatest sum", c.bridges(60, two, 0), 60 * 99 * 2);
        Due.is("the greatest sum: the set", c.bridges(60, two, 1), 6);
        Due.told(c, 0, "ready 10;cost 99-99*link;", 2);
        Due.is("a sum of 0", c.bridges(60, two, 0), 0);
        Due.is("a sum of 0: the set", c.bridges(60, two, 1), 6);
    }

    private static int left(int ready, int d) {
        long left = 1000000;
        for (int i = 0; i < d; i++) {
            left = left * (1000 - ready) / 1000;
        }
        return (int) left;
    }

    /** "the least d times cost of them together; of several the fewest, then the least set" */
    private static void bridgesOfTwelve() {
        TwelveChain x = chain(12);
        Due.told(x, 0, "ready 900;", 1);
        int each = 900000;
        int[][] due = {{12, 0}, {11, 2}, {10, 4}, {7, 32}, {6, 64 + 2}};
        for (int[] d : due) {
            Due.is("parts of " + d[0] + " at most", x.bridges(1, power(each, d[0]), 1), d[1]);
        }
        for (int longest = 2; longest < 12; longest++) {
            int set = x.bridges(1, power(each, longest), 1);
            int fewest = (11 + longest - 2) / (longest - 1) - 1;
            Due.is("parts of " + longest + ": the fewest", Integer.bitCount(set), fewest);
            Due.is("parts of " + longest + ": the sum", x.bridges(1, power(each, longest), 0), 3 * fewest);
            Due.is("parts of " + longest + ": the least set", set, leastSet(12, longest, fewest));
        }
        Due.is("parts of 2", x.bridges(1, power(each, 2), 1), 2046);
        Due.is("parts of 1", x.bridges(1, power(each, 1), 1), -1);
        // more of them, where they cost less
        Due.told(x, 0, "ready 900;cost 5 when link=5;cost 2 when link=3 or link=8;cost 9;", 4);
        int bound = power(each, 7);
        Due.is("one for 5 or two for 4", x.bridges(1, power(each, 7), 1), 1 << 3 | 1 << 8);
        Due.is("two for 4: sum", x.bridges(1, bound, 0), 4);
        Due.told(x, 0, "ready 900;cost 4 when link=5;cost 2 when link=3 or link=8;cost 9;", 4);
        Due.is("one for 4 or two for 4: the fewest", x.bridges(1, bound, 1), 1 << 5);
        Due.told(x, 0, "ready 900;cost 4 when link=5 or link=6;cost 2 when link=3 or link=8;cost 9;", 4);
        Due.is("the least set of one", x.bridges(1, bound, 1), 1 << 5);
        // three that cost least, though two would do for more, ahead of them and behind
        TwelveChain y = chain(9);
        Due.told(y, 0, "ready 900;cost 1 when link=1 or link=4 or link=5;cost 9;", 3);
        Due.is("three for 3 or two for 10 or 18", y.bridges(1, power(each, 4), 1), 2 + 16 + 32);
        Due.is("three for 3: sum", y.bridges(1, power(each, 4), 0), 3);
    }

    private static int leastSet(int links, int longest, int fewest) {
        for (int set = 0; set < 1 << links - 1; set += 2) {
            int from = 0;
            boolean good = Integer.bitCount(set) == fewest;
            for (int i = 1; i < links; i++) {
                if (i == links - 1 || (set >> i & 1) == 1) {
                    good &= i - from + 1 <= longest;
                    from = i;
                }
            }
            if (good) {
                return set;
            }
        }
        return -1;
    }

    /** "SHARES of n (0 .. 9999): LINKS neither OUT nor MOVED with WORTH above 0"; "each a level or all its WORTH, and one more each" */
    private static void shares() {
        TwelveChain x = new TwelveChain();
        int[] worth = {0, -999, 1, 2, 999, -1, 3};
        for (int w : worth) {
            x.link(1, 0, w, 0);
        }
        int[][] due = {{0, 0, 0, 0, 0}, {1, 1, 0, 0, 0}, {2, 1, 1, 0, 0}, {3, 1, 1, 1, 0}, {4, 1, 1, 1, 1}, {5, 1, 2, 1, 1}, {6, 1, 2, 2, 1},
            {7, 1, 2, 2, 2}, {8, 1, 2, 3, 2}, {9, 1, 2, 3, 3}, {10, 1, 2, 4, 3}, {1004, 1, 2, 998, 3}, {1005, 1, 2, 999, 3}};
        int[] who = {2, 3, 4, 6};
        for (int[] d : due) {
            for (int k = 0; k < 4; k++) {
                Due.is("share " + d[0] + " of " + who[k], x.share(d[0], who[k]), d[k + 1]);
            }
            Due.is("share " + d[0] + " of worth 0", x.share(d[0], 0), 0);
            Due.is("share " + d[0] + " of worth below 0", x.share(d[0], 1), 0);
        }
        Due.is("share 1006: all together can't", x.share(1006, 4), -1);
        Due.is("share 9999", x.share(9999, 4), -1);
        // eleven that have 909 each are 9999
        TwelveChain y = new TwelveChain();
        for (int i = 0; i < 11; i++) {
            y.link(1, 0, 909, 0);
        }
        for (int i = 0; i < 11; i++) {
            Due.is("all of 9999", y.share(9999, i), 909);
            Due.is("all but one of 9999", y.share(9998, i), i < 10 ? 909 : 908);
        }
        y.set(2, 0, 908);
        Due.is("one too few", y.share(9999, 10), -1);
        y.link(1, 0, 1, 0);
        Due.is("and one more", y.share(9999, 11), 1);
        TwelveChain z = new TwelveChain();
        for (int i = 0; i < 12; i++) {
            z.link(1, 0, 999, 0);
        }
        for (int i = 0; i < 12; i++) {
            Due.is("9999 of twelve", z.share(9999, i), i < 3 ? 834 : 833);
        }
        TwelveChain o = out(3, 1);
        int[] left = {3, 0, 2};
        for (int i = 0; i < 3; i++) {
            Due.is("one OUT", o.share(5, i), left[i]);
        }
        Due.is("two can", o.share(80, 2), 40);
        Due.is("two can't", o.share(81, 2), -1);
        TwelveChain m = moved();
        Due.is("one MOVED", m.share(5, 0), 0);
        Due.is("the next one", m.share(5, 1), 3);
    }

    /** "it gives give (n at most), the rest is asked of the next one above"; n 0 .. 999 */
    private static void along() {
        TwelveChain x = chain(12);
        Due.told(x, 0, "give 1;", 1);
        for (int n = 0; n < 15; n++) {
            Due.is("along: what nobody gives of " + n, x.along(0, n, 0), Math.max(0, n - 12));
            Due.is("along: how many give of " + n, x.along(0, n, 1), Math.min(12, n));
        }
        Due.is("along from the last", x.along(11, 999, 0), 998);
        Due.is("along from the last: one", x.along(11, 999, 1), 1);
        Due.told(x, 0, "give 999 when link=5;give 0;", 2);
        Due.is("one gives all", x.along(0, 999, 0), 0);
        Due.is("one gives all: how many", x.along(0, 999, 1), 1);
        Due.is("behind it none", x.along(6, 999, 0), 999);
        Due.is("behind it none: how many", x.along(6, 999, 1), 0);
        Due.told(x, 0, "give 998 when link=5;give 1 when link=11;give 0;", 3);
        Due.is("the last one gives the rest", x.along(0, 999, 0), 0);
        Due.is("the last one gives the rest: how many", x.along(0, 999, 1), 2);
        Due.is("all is given before", x.along(0, 998, 1), 1);
        TwelveChain o = out(3, 0);
        Due.is("from one OUT", o.along(0, 999, 0), 979);
        Due.is("from one OUT: how many", o.along(0, 999, 1), 2);
        TwelveChain m = moved();
        Due.is("from one MOVED", m.along(0, 999, 0), 979);
        // the PRICE is no bound for it
        m.set(0, 1, 1);
        Due.is("a price of 1", m.along(1, 20, 0), 0);
    }

    /** "which is greatest (of several the first)"; n 0 .. 999, p 0 .. 1000 */
    private static void choice() {
        int[][] due = {{40, 0, 0, 3, 0, 40}, {40, 0, 1000, 3, 0, 40}, {40, 0, 500, 0, 0, 40}, {40, 3, 1000, 3, 0, 37}, {40, 4, 1000, 3, 1, 37},
            {40, 999, 0, 3, 2, 0}, {40, 999, 1000, 3, 1, 37}, {40, 999, 75, 3, 1, 0}, {40, 999, 74, 3, 2, 0}, {0, 0, 0, 0, 0, 0},
            {0, 0, 1000, 99, 0, 0}, {0, 1, 1000, 0, 1, 0}, {-1, 0, 0, 0, 1, 0}, {-1, 0, 1000, 0, 2, 0}, {-1, 0, 1, 0, 2, 0},
            {-999, 999, 1000, 99, 2, 0}, {999, 999, 1, 0, 0, 0}, {999, 999, 2, 0, 1, 1}, {999, 998, 2, 0, 1, 2}, {999, 999, 1000, 99, 1, 900},
            {999, 0, 999, 99, 0, 999}, {40, 40, 25, 0, 1, 1}, {40, 40, 24, 0, 0, 0}, {10, 5, 199, 0, 0, 5}, {10, 5, 200, 0, 1, 6},
            {10, 5, 399, 0, 1, 6}, {10, 5, 400, 0, 1, 7}};
        for (int[] d : due) {
            TwelveChain x = chain(1);
            x.set(2, 0, d[0]);
            Due.told(x, 0, "cost " + d[3] + ";", 1);
            String call = "choice at worth " + d[0] + " asked " + d[1] + ", " + d[2] + " take, cost " + d[3];
            Due.is(call, x.choice(0, d[1], d[2], 0), d[4]);
            Due.is(call + ": how much", x.choice(0, d[1], d[2], 1), d[5]);
        }
    }

    /** "of a million, that who threatens bluffs: p a by (p a and (1000 - p) b)" */
    private static void bluff() {
        TwelveChain x = new TwelveChain();
        int[][] due = {{0, 0, 0, -1}, {0, 1000, 0, -1}, {1000, 0, 1000, -1}, {0, 0, 1, 0}, {0, 1000, 1000, 0}, {1000, 1, 0, 1000000},
            {1000, 1000, 1000, 1000000}, {1, 1, 1, 1000}, {999, 1, 1, 999000}, {1, 1, 1000, 1}, {1, 1000, 1, 500250}, {500, 0, 1, 0},
            {500, 1, 0, 1000000}, {500, 1, 2, 333333}, {500, 2, 1, 666666}, {500, 1000, 1000, 500000}, {999, 1000, 1, 999998}};
        for (int[] d : due) {
            Due.is("bluff " + d[0] + " " + d[1] + " " + d[2], x.bluff(d[0], d[1], d[2]), d[3]);
        }
    }

    /** "ten minutes each ... each within its PHONES (begun there, ended there)" */
    private static void windows() {
        int[][] due = {{0, 9, -1}, {0, 10, 10}, {0, 11, 10}, {230, 240, 240}, {231, 240, -1}, {229, 240, 239}, {100, 109, -1}, {100, 110, 110},
            {0, 1, -1}, {239, 240, -1}, {0, 240, 10}};
        for (int[] d : due) {
            TwelveChain x = chain(1);
            Due.told(x, 2, "link 0 from " + d[0] + " to " + d[1] + ";", 1);
            boolean can = d[2] >= 0;
            Due.is("signs from " + d[0] + " to " + d[1], x.signs(0), d[2]);
            Due.is("how many", x.signs(1), can ? 1 : 0);
            Due.is("the first", x.signs(10), can ? 0 : -1);
            Due.is("no second", x.signs(11), -1);
        }
        // one behind the other: 10 minutes lie between
        TwelveChain x = chain(2);
        Due.told(x, 2, "link 0 from 0 to 19;link 1 from 0 to 19;", 2);
        Due.is("one minute too few", x.signs(0), -1);
        Due.is("one of the two", x.signs(1), 1);
        Due.told(x, 2, "link 0 from 0 to 20;link 1 from 0 to 19;", 2);
        Due.is("just enough", x.signs(0), 20);
        Due.is("who has less time is first", x.signs(10), 1);
        Due.is("then the other one", x.signs(11), 0);
        Due.told(x, 2, "link 0 from 9 to 19;link 1 from 18 to 28;", 2);
        Due.is("the second one begins too early", x.signs(0), -1);
        Due.told(x, 2, "link 0 from 9 to 19;link 1 from 18 to 29;", 2);
        Due.is("it waits", x.signs(0), 29);
        Due.told(x, 2, "link 0 from 9 to 19;link 1 from 50 to 60;", 2);
        Due.is("the telephone waits", x.signs(0), 60);
        TwelveChain none = chain(0);
        Due.is("no links: minute", none.signs(0), 0);
        Due.is("no links: how many", none.signs(1), 0);
        Due.is("no links: order", none.signs(10), -1);
        Due.is("no links: what 9", none.signs(9), -1);
    }

    private static void twelveSign() {
        TwelveChain x = chain(12);
        Due.is("twelve", x.signs(0), 120);
        Due.is("twelve: how many", x.signs(1), 12);
        for (int i = 0; i < 12; i++) {
            Due.is("twelve: in order " + i, x.signs(10 + i), i);
        }
        Due.is("twelve: no thirteenth", x.signs(22), -1);
        Due.is("what 9", x.signs(9), -1);
        StringBuilder s = new StringBuilder();
        for (int i = 0; i < 12; i++) {
            s.append("link ").append(i).append(" from 121 to 240;");
        }
        Due.told(x, 2, s.toString(), 12);
        Due.is("a minute too few for twelve", x.signs(0), -1);
        Due.is("eleven can", x.signs(1), 11);
        Due.is("no order", x.signs(10), -1);
        Due.is("no last one", x.signs(21), -1);
        Due.told(x, 2, s.toString().replace("121", "120"), 12);
        Due.is("just enough for twelve", x.signs(0), 240);
        Due.is("just enough: the last one", x.signs(21), 11);
        StringBuilder down = new StringBuilder();
        for (int i = 0; i < 12; i++) {
            down.append("link ").append(i).append(" from 0 to ").append(120 - 10 * i).append(';');
        }
        Due.told(x, 2, down.toString(), 12);
        Due.is("each at its last minute", x.signs(0), 120);
        for (int i = 0; i < 12; i++) {
            Due.is("each at its last minute " + i, x.signs(10 + i), 11 - i);
        }
        Due.told(x, 2, down.toString().replace("to 10;", "to 9;"), 12);
        Due.is("the last one can't", x.signs(0), -1);
        Due.is("the others can", x.signs(1), 11);
        Due.told(x, 2, "link 3 from 0 to 5;link 4 from 235 to 240;", 2);
        Due.is("two can't", x.signs(1), 10);
        Due.told(x, 2, "", 0);
        Due.is("all day long again", x.signs(0), 120);
    }

    /** "the order (of several with it the first: LINK by LINK, the lesser one)" */
    private static void orders() {
        TwelveChain x = chain(4);
        Due.told(x, 2, "link 0 from 30 to 60;link 3 from 0 to 25;", 2);
        // 40 at the earliest: 0 is the last one, 3 among the first two; 1 first, then 2 would be too late for 3
        int[] due = {1, 3, 2, 0};
        Due.is("the minute", x.signs(0), 40);
        for (int i = 0; i < 4; i++) {
            Due.is("order " + i, x.signs(10 + i), due[i]);
        }
        Due.told(x, 2, "link 0 from 31 to 60;link 3 from 0 to 25;", 2);
        Due.is("the minute, one later", x.signs(0), 41);
        for (int i = 0; i < 4; i++) {
            Due.is("order with a minute to wait " + i, x.signs(10 + i), due[i]);
        }
        Due.told(x, 2, "link 2 from 200 to 240;", 1);
        int[] late = {0, 1, 3, 2};
        Due.is("one is late", x.signs(0), 210);
        for (int i = 0; i < 4; i++) {
            Due.is("order before the late one " + i, x.signs(10 + i), late[i]);
        }
        // with 0 first, 1 could begin in time or 2 end in time, but not both
        Due.told(x, 2, "link 0 from 4 to 240;link 1 from 20 to 30;link 2 from 0 to 35;link 3 from 40 to 50;", 4);
        int[] tight = {2, 0, 1, 3};
        Due.is("the minute of the last one", x.signs(0), 50);
        for (int i = 0; i < 4; i++) {
            Due.is("order where 0 can't be first " + i, x.signs(10 + i), tight[i]);
        }
        // who must wait may still be the lesser one: 0 from 5 on, and the rest ends at 50 all the same
        Due.told(x, 2, "link 0 from 5 to 240;link 3 from 40 to 240;", 2);
        Due.is("a gap that costs nothing", x.signs(0), 50);
        int[] gap = {0, 1, 2, 3};
        for (int i = 0; i < 4; i++) {
            Due.is("order with a gap " + i, x.signs(10 + i), gap[i]);
        }
        Due.told(x, 2, "link 0 from 11 to 240;link 3 from 40 to 240;", 2);
        int[] second = {1, 0, 2, 3};
        Due.is("one minute more to wait", x.signs(0), 50);
        Due.is("it can't be first with all by 50", x.signs(10), second[0]);
        Due.is("it is second", x.signs(11), second[1]);
    }

    /** "MONEY from minute t (0 .. 600): it needs 10 and SLOW minutes for each LINK"; "by minute m (0 .. 600)" */
    private static void money() {
        TwelveChain x = new TwelveChain();
        for (int i = 0; i < 12; i++) {
            x.link(1, 0, 0, i == 0 ? 0 : i == 1 ? 9 : 5);
        }
        int[][] due = {{0, 0, -1}, {0, 9, -1}, {0, 10, 0}, {0, 28, 0}, {0, 29, 1}, {0, 43, 1}, {0, 44, 2}, {0, 178, 10}, {0, 179, 11}, {0, 600, 11},
            {600, 600, -1}, {591, 600, -1}, {590, 600, 0}, {421, 600, 11}, {422, 600, 10}, {600, 0, -1}, {10, 10, -1}, {10, 20, 0}};
        for (int[] d : due) {
            Due.is("money from " + d[0] + " by " + d[1], x.money(d[0], d[1]), d[2]);
        }
        Due.is("no links", chain(0).money(0, 600), -1);
    }

    /** "ILL from DAY a for k (1 .. 30) DAYS" */
    private static void ill() {
        TwelveChain x = chain(12);
        Due.is("without records", x.ill(0, 1), 4095);
        Due.is("without records, at the bounds", x.ill(999, 30), 4095);
        Due.told(x, 3, "day 0 link 0;day 29 link 1;day 30 link 2;day 999 link 3;day 970 link 4;day 969 link 5;", 6);
        int[][] due = {{0, 1, 1}, {0, 29, 1}, {0, 30, 3}, {1, 30, 6}, {1, 28, 0}, {1, 29, 2}, {30, 1, 4}, {31, 30, 0}, {999, 1, 8}, {999, 30, 8},
            {970, 30, 24}, {970, 29, 16}, {969, 30, 48}, {969, 1, 32}, {940, 30, 32}, {940, 29, 0}};
        for (int[] d : due) {
            Due.is("ill from " + d[0] + " for " + d[1], x.ill(d[0], d[1]), 4095 & ~d[2]);
        }
        Due.is("no links", chain(0).ill(999, 30), 0);
        Due.is("one link", chain(1).ill(0, 1), 1);
    }

    /** "of DAYS 0 .. 99 the first by which ... the greater number is least"; "NONE with fewer than two LINKS" */
    private static void wrote() {
        String[] told = {"", "day 0 link 0;", "day 99 link 0;", "day 100 link 0;", "day 98 link 0;day 99 link 1;", "day 1 link 0;day 1 link 1;",
            "day 1 link 0;day 0 link 0;", "day 50 link 0;day 50 link 0;day 60 link 1;"};
        int[] two = {0, 0, 99, 0, 98, 0, 0, 50};
        for (int i = 0; i < told.length; i++) {
            TwelveChain x = chain(2);
            Due.told(x, 3, told[i], told[i].split(";").length - (told[i].isEmpty() ? 1 : 0));
            Due.is("wrote: " + told[i], x.wrote(), two[i]);
        }
        TwelveChain one = chain(1);
        Due.told(one, 3, "day 5 link 0;", 1);
        Due.is("one link", one.wrote(), -1);
        one.link(1, 1, 1, 1);
        Due.is("two links", one.wrote(), 5);
        TwelveChain x = chain(12);
        StringBuilder s = new StringBuilder();
        for (int i = 0; i < 12; i++) {
            s.append("day ").append(10 + i).append(" link ").append(i).append(';');
        }
        Due.told(x, 3, s.toString(), 12);
        Due.is("six of twelve", x.wrote(), 15);
        Due.told(x, 3, s.toString().replace("day 15 link 5;", "day 14 link 5;"), 12);
        Due.is("six of twelve at once", x.wrote(), 14);
        Due.told(x, 3, s.toString().replace("day 15 link 5;", "day 14 link 5;day 14 link 5;day 14 link 5;"), 14);
        Due.is("each counts once", x.wrote(), 14);
        TwelveChain y = chain(3);
        Due.told(y, 3, "day 7 link 2;", 1);
        Due.is("one of three", y.wrote(), 7);
        Due.told(y, 3, "day 7 link 2;day 9 link 1;", 2);
        Due.is("of one or two with it the first", y.wrote(), 7);
        Due.told(y, 3, "day 7 link 2;day 7 link 1;day 9 link 0;", 3);
        Due.is("two at once", y.wrote(), 7);
    }

    private static void slowest() {
        TwelveChain x = chain(12);
        Due.is("of several the least", x.slowest(), 0);
        x.set(3, 11, 2);
        Due.is("the last one", x.slowest(), 11);
        Due.told(x, 0, "ready 0;", 1);
        Due.is("all at 0", x.slowest(), 0);
        Due.told(x, 0, "ready 1000+link;", 1);
        Due.is("all held to 1000", x.slowest(), 0);
        Due.is("one that is OUT, too", out(2, 0).slowest(), 0);
        TwelveChain m = moved();
        Due.told(m, 0, "ready 0 when link=0;", 1);
        Due.is("none that has MOVED", m.slowest(), 1);
        ready(m, 1, 2);
        m.days(1);
        Due.is("all MOVED", m.slowest(), -1);
        Due.is("no links", chain(0).slowest(), -1);
    }

    /** "two by turns take 1, 2 or 3 of one's; who takes the last one of all wins" */
    private static void game() {
        for (int slow = 0; slow < 10; slow++) {
            TwelveChain x = chain(1);
            x.set(3, 0, slow);
            boolean wins = slow % 4 != 0;
            Due.is("game of " + slow, x.game(0), wins ? 0 : -1);
            Due.is("game of " + slow + ": how many", x.game(1), wins ? slow % 4 : -1);
            Due.is("game of " + slow + ": what 2", x.game(2), -1);
        }
        TwelveChain x = chain(12);
        Due.is("twelve alike", x.game(0), -1);
        x.set(3, 11, 9);
        Due.is("1 eleven times and 9", x.game(0), -1);
        x.set(3, 11, 8);
        Due.is("1 eleven times and 8", x.game(0), 0);
        x.set(3, 11, 6);
        Due.is("1 eleven times and 6", x.game(0), 11);
        Due.is("1 eleven times and 6: how many", x.game(1), 1);
        // the fewest of one's, the least LINK: 5 and 6 and 0, 0 can be won at 0 alone by 3, at 1 by 1
        TwelveChain y = chain(2);
        y.set(3, 0, 5);
        y.set(3, 1, 6);
        Due.is("5 and 6", y.game(0), 0);
        Due.is("5 and 6: how many", y.game(1), 3);
        TwelveChain m = moved();
        m.set(3, 0, 3);
        m.set(3, 1, 2);
        m.set(3, 2, 2);
        Due.is("not of one MOVED", m.game(0), -1);
        Due.is("of one OUT", out(1, 0).game(0), 0);
    }

    /** "the fewest DAYS (1 .. 60) by which ODDS are h at least" */
    private static void soon() {
        TwelveChain x = chain(1);
        Due.told(x, 0, "ready 500;", 1);
        int[][] due = {{0, 1}, {500000, 1}, {500001, 2}, {750000, 2}, {750001, 3}, {999999, 19}, {1000000, 20}};
        for (int[] d : due) {
            Due.is("soon " + d[0], x.soon(d[0]), d[1]);
        }
        Due.told(x, 0, "ready 1;", 1);
        int sixty = 1000000 - left(1, 60);
        int before = 1000000 - left(1, 59);
        Due.is("by day 60", x.soon(sixty), 60);
        Due.is("by day 60 at the earliest", x.soon(before + 1), 60);
        Due.is("by day 59", x.soon(before), 59);
        Due.is("not by day 60", x.soon(sixty + 1), -1);
        Due.told(x, 0, "ready 0;", 1);
        Due.is("ready 0: soon 0", x.soon(0), 1);
        Due.is("ready 0: soon 1", x.soon(1), -1);
        ready(x, 0);
        Due.is("all READY", x.soon(1000000), 1);
        Due.is("one OUT: soon 0", out(2, 1).soon(0), 1);
        Due.is("one OUT: soon 1", out(2, 1).soon(1), -1);
        // each ODDS by its own DAYS, LINK by LINK
        TwelveChain y = chain(12);
        for (int d = 1; d <= 60; d++) {
            int h = y.odds(d);
            int fewest = 1;
            while (y.odds(fewest) < h) {
                fewest++;
            }
            Due.is("soon what odds of " + d + " are", y.soon(h), fewest);
            y = chain(12);
        }
    }

    /** "which LINK, if its SLOW were 0 (all else as now), would make ODDS of d DAYS greatest; of several the least" */
    private static void hurry() {
        TwelveChain x = chain(4);
        Due.is("of several the least", x.hurry(1, 0), 0);
        Due.is("its odds", x.hurry(1, 1), hurried(300000, 270000, 3));
        x.set(3, 3, 9);
        Due.is("the last one", x.hurry(1, 0), 3);
        Due.is("the last one: odds", x.hurry(1, 1), 5904);
        x.set(3, 3, 0);
        Due.is("who is not slow makes none greater", x.hurry(1, 0), 0);
        TwelveChain y = chain(1);
        ready(y, 0);
        Due.is("all READY", y.hurry(60, 0), 0);
        Due.is("all READY: odds", y.hurry(60, 1), 1000000);
        TwelveChain o = out(2, 1);
        Due.is("one OUT", o.hurry(60, 0), 0);
        Due.is("one OUT: odds", o.hurry(60, 1), 0);
        TwelveChain z = chain(2);
        Due.told(z, 0, "ready 100*slow;", 1);
        z.set(3, 0, 5);
        z.set(3, 1, 6);
        // without being slow it never gets ready
        Due.is("odds are 0 whom one hurries", z.hurry(1, 1), 0);
        Due.is("of both the least", z.hurry(1, 0), 0);
        ready(z, 1);
        Due.is("the READY one leaves them as they are", z.hurry(1, 0), 1);
        Due.is("the READY one: odds", z.hurry(1, 1), 500000);
        Due.is("slow stays as it is", z.of(0, 3), 5);
    }

    private static int hurried(long first, long each, int others) {
        long all = first;
        for (int i = 0; i < others; i++) {
            all = all * each / 1000000;
        }
        return (int) all;
    }

    /** "which LINK that can be bridged, bridged besides, makes the least one of all PARTS' ODDS of d DAYS greatest" */
    private static void split() {
        for (int links = 0; links < 3; links++) {
            Due.is("split of " + links, chain(links).split(1, 0), -1);
            Due.is("split of " + links + ": odds", chain(links).split(1, 1), -1);
        }
        TwelveChain x = chain(3);
        Due.is("split of 3", x.split(1, 0), 1);
        Due.is("split of 3: odds", x.split(1, 1), 72900);
        x.bridge(1);
        Due.is("the only one is bridged", x.split(1, 0), -1);
        TwelveChain y = chain(12);
        Due.is("split of 12 in a day", y.split(1, 0), 5);
        Due.is("split of 12 in a day: odds", y.split(1, 1), power(270000, 7));
        for (int i = 1; i < 11; i++) {
            if (i != 9) {
                y.bridge(i);
            }
        }
        Due.is("one is left", y.split(1, 0), 9);
        Due.is("one is left: odds", y.split(1, 1), 72900);
        // one that is OUT can't be, and makes all ODDS 0
        TwelveChain o = out(4, 1);
        Due.is("one OUT", o.split(60, 0), 2);
        Due.is("one OUT: odds", o.split(60, 1), 0);
        TwelveChain all = chain(4);
        ready(all, 0, 1, 2, 3);
        Due.is("all READY", all.split(1, 0), 1);
        Due.is("all READY: odds", all.split(1, 1), 1000000);
    }

    private static void runs() {
        TwelveChain x = chain(12);
        Due.is("all twelve", x.runs(0), 12);
        Due.is("all twelve: first", x.runs(1), 0);
        Due.is("all twelve: poorest", x.runs(2), 1);
        x.set(1, 0, 99);
        Due.is("eleven", x.runs(0), 11);
        Due.is("eleven: first", x.runs(1), 1);
        x.set(1, 6, -1);
        Due.is("five and five: how long", x.runs(0), 5);
        Due.is("five and five: first", x.runs(1), 1);
        x.set(1, 1, -1);
        Due.is("four and five: first", x.runs(1), 7);
        for (int i = 2; i < 11; i++) {
            x.set(1, i, -1);
        }
        Due.is("the last one alone", x.runs(0), 1);
        Due.is("the last one alone: first", x.runs(1), 11);
        Due.is("the last one alone: poorest", x.runs(2), 11);
        TwelveChain o = out(2, 1);
        Due.is("the last one is OUT", o.runs(0), 1);
        o.set(1, 0, 0);
        Due.is("none", o.runs(0), 0);
        Due.is("none: first", o.runs(1), -1);
        Due.is("none: poorest", o.runs(2), -1);
        TwelveChain one = chain(1);
        one.set(1, 0, -9999);
        Due.is("one link", one.runs(0), 1);
        Due.is("one link: poorest", one.runs(2), 0);
        TwelveChain m = moved();
        Due.is("not one MOVED", m.runs(0), 2);
        Due.is("not one MOVED: first", m.runs(1), 1);
    }
}
