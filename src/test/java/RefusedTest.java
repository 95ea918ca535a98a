import java.util.function.Supplier;

/** A refused call answers what its promise says and leaves all as it was; so does every thought. */
public final class RefusedTest {
    private static final int NOT_TOLD = -100000;
    private static final int LEAST = Integer.MIN_VALUE;
    private static final int MOST = Integer.MAX_VALUE;
    private static final int[] NO_LINK = {-1, 6, 12, 32, LEAST, MOST};
    private static final int[] NO_DAYS = {0, 61, -1, LEAST, MOST};

    interface Call {
        long of(TwelveChain x);
    }

    public static void main(String[] args) {
        told();
        deeds();
        texts();
        looks();
        chances();
        money();
        rest();
        full();
        lastDay();
        empty();
        thoughts();
        Due.end("RefusedTest");
    }

    /** LINKS 0 and 1 MOVED, 2 BRIDGED, 3 OUT, 4 READY, 5 the last; all TEXTS, a FAULT, 13 bytes, an IMAGE, six to undo. */
    private static TwelveChain rich() {
        TwelveChain x = new TwelveChain();
        for (int i = 0; i < 6; i++) {
            x.link(100 + 100 * i, 200 - i, 40 - 2 * i, 1 + i);
        }
        Due.tell(x, 0, "ready 0;leave 1000 when link=3 and day=1;cost 7;give 9;");
        Due.tell(x, 1, "on 90 paper 5;on 91 ask 4 8;");
        Due.tell(x, 2, "link 1 from 5 to 50;");
        Due.tell(x, 3, "day 3 link 2;");
        x.state(77);
        x.bridge(2);
        x.paper(0);
        x.paper(1);
        x.paper(2);
        x.image(true);
        x.days(2);
        x.paper(4);
        x.pay(4, 5, 3);
        x.ask(4, 4);
        Due.tell(x, 0, "give 5");
        Due.put(x, "cost 1;cost 2");
        return x;
    }

    private static long b(boolean so) {
        return so ? 1 : 0;
    }

    private static void unchanged(String call, long due, Call call1, Supplier<TwelveChain> maker, int tape) {
        TwelveChain x = maker.get();
        Due.is(call, call1.of(x), due);
        TwelveChain y = maker.get();
        Due.is(call + ": fault(0)", x.fault(0), y.fault(0));
        Due.is(call + ": fault(1)", x.fault(1), y.fault(1));
        Seen.tape(call, x, tape);
        Seen.same(call, x, y);
    }

    private static void refused(String call, long due, Call call1) {
        unchanged(call, due, call1, RefusedTest::rich, 13);
    }

    private static void told() {
        Due.is("rich: moved", rich().look(3), 3);
        Due.is("rich: bridged", rich().look(4), 4);
        Due.is("rich: out", rich().of(3, 5), 1);
        Due.is("rich: ready", rich().of(4, 4), 1);
        Due.is("rich: six to undo", rich().look(12), 6);
        int[][] links = {{0, 1, 1, 1}, {1000, 1, 1, 1}, {-1, 1, 1, 1}, {LEAST, 1, 1, 1}, {MOST, 1, 1, 1}, {1, -10000, 1, 1},
            {1, 10000, 1, 1}, {1, LEAST, 1, 1}, {1, MOST, 1, 1}, {1, 1, -1000, 1}, {1, 1, 1000, 1}, {1, 1, LEAST, 1}, {1, 1, MOST, 1},
            {1, 1, 1, -1}, {1, 1, 1, 10}, {1, 1, 1, LEAST}, {1, 1, 1, MOST}};
        for (int[] l : links) {
            refused("link " + l[0] + " " + l[1] + " " + l[2] + " " + l[3], -1, x -> x.link(l[0], l[1], l[2], l[3]));
        }
        int[][] sets = {{0, 0}, {0, 1000}, {1, -10000}, {1, 10000}, {2, -1000}, {2, 1000}, {3, -1}, {3, 10}, {4, -1}, {4, 2},
            {0, LEAST}, {1, LEAST}, {2, LEAST}, {3, LEAST}, {4, LEAST}, {0, MOST}, {1, MOST}, {2, MOST}, {3, MOST}, {4, MOST},
            {5, 1}, {-1, 1}, {LEAST, 1}, {MOST, 1}};
        for (int[] s : sets) {
            refused("set " + s[0] + " to " + s[1], 0, x -> b(x.set(s[0], 2, s[1])));
        }
        for (int who : NO_LINK) {
            for (int what = 0; what < 5; what++) {
                int w = what;
                refused("set " + what + " of LINK " + who, 0, x -> b(x.set(w, who, 1)));
            }
        }
    }

    private static void deeds() {
        // the last one; whom one that is MOVED, OUT stands above
        int[][] asks = {{5, 5}, {0, 5}, {2, 5}, {3, 0}, {3, 100}, {3, -1}, {3, LEAST}, {3, MOST}};
        for (int[] a : asks) {
            refused("ask " + a[0] + " " + a[1], -1, x -> x.ask(a[0], a[1]));
        }
        int[] noBridge = {0, 1, 2, 3, 5};
        for (int i : noBridge) {
            refused("bridge " + i, 0, x -> b(x.bridge(i)));
        }
        int[][] pays = {{4, 5, 0}, {4, 5, 100}, {4, 5, -1}, {4, 5, LEAST}, {4, 5, MOST}, {4, 4, 5}, {0, 0, 1}};
        for (int[] p : pays) {
            refused("pay " + p[0] + " " + p[1] + " " + p[2], 0, x -> b(x.pay(p[0], p[1], p[2])));
        }
        int[] noPaper = {0, 1, 3, 4};
        for (int i : noPaper) {
            refused("paper " + i, 0, x -> b(x.paper(i)));
        }
        int[] noJoin = {0, 1, 2, 4, 5};
        for (int i : noJoin) {
            refused("join " + i, 0, x -> b(x.join(i)));
        }
        for (int i : NO_LINK) {
            refused("ask " + i, -1, x -> x.ask(i, 5));
            refused("bridge " + i, 0, x -> b(x.bridge(i)));
            refused("pay from " + i, 0, x -> b(x.pay(i, 1, 5)));
            refused("pay to " + i, 0, x -> b(x.pay(1, i, 5)));
            refused("paper " + i, 0, x -> b(x.paper(i)));
            refused("join " + i, 0, x -> b(x.join(i)));
        }
        for (int n : NO_DAYS) {
            refused("days " + n, -1, x -> x.days(n));
        }
        Supplier<TwelveChain> poor = () -> purses(-9990, 0);
        Supplier<TwelveChain> wealthy = () -> purses(0, 9990);
        unchanged("pay below -9999", 0, x -> b(x.pay(0, 1, 10)), poor, 0);
        unchanged("pay above 9999", 0, x -> b(x.pay(0, 1, 10)), wealthy, 0);
    }

    private static TwelveChain purses(int first, int second) {
        TwelveChain x = new TwelveChain();
        x.link(5, first, 5, 5);
        x.link(5, second, 5, 5);
        x.paper(1);
        return x;
    }

    /** A FAULT and a text that there is not empty the TAPE and tell fault(); all else stays. */
    private static void texts() {
        String[][] faulty = {{"ready 5;cost 5;ready", "leave"}, {"on 3 paper 1;on 3 paper", "on 3 ask 5 100;"},
            {"link 0 from 3 to 9;link", "link 0 from 9 to 9;"}, {"day 1 link 1;day", "day 1 link 6;"}};
        for (int k = 0; k < 4; k++) {
            for (String text : faulty[k]) {
                TwelveChain x = rich();
                x.end(0);
                Due.is("text(" + k + ") of \"" + text + "\"", Due.tell(x, k, text), -1);
                Due.so("a fault of \"" + text + "\"", x.fault(0) > 0);
                Seen.tape(text, x, 0);
                Seen.same(text, x, rich());
            }
        }
        int[] none = {-1, 4, LEAST, MOST};
        for (int k : none) {
            TwelveChain x = rich();
            Due.is("rich: fault(0)", x.fault(0), 1);
            Due.is("text(" + k + ")", x.text(k), -1);
            Due.is("text(" + k + "): fault(0)", x.fault(0), 0);
            Due.is("text(" + k + "): fault(1)", x.fault(1), -1);
            Seen.same("text(" + k + ")", x, rich());
        }
        Supplier<TwelveChain> full = () -> {
            TwelveChain x = rich();
            x.end(0);
            Due.put(x, "cost 1;".repeat(55) + "cost");
            return x;
        };
        unchanged("feed with 389 bytes", -1, x -> x.feed(1, 2, 3, 4, 5), full, 389);
        int[] noEnd = {14, 400, 401, -1, LEAST, MOST};
        for (int n : noEnd) {
            refused("end " + n, 0, x -> b(x.end(n)));
        }
    }

    private static void looks() {
        int[] noFault = {-1, 2, LEAST, MOST};
        for (int what : noFault) {
            refused("fault " + what, -1, x -> x.fault(what));
        }
        int[] noOf = {-1, 14, LEAST, MOST};
        for (int what : noOf) {
            refused("of 0 " + what, NOT_TOLD, x -> x.of(0, what));
        }
        int[] noPhone = {-1, 3, LEAST, MOST};
        for (int what : noPhone) {
            refused("phone 0 " + what, -1, x -> x.phone(0, what));
        }
        for (int i : NO_LINK) {
            refused("of " + i, NOT_TOLD, x -> x.of(i, 0));
            refused("phone " + i, -1, x -> x.phone(i, 0));
            refused("gap " + i, -1, x -> x.gap(i));
        }
        int[] noLine = {-1, 150, 151, 1 << 30, LEAST, MOST};
        for (int i : noLine) {
            refused("book " + i, -1, x -> x.book(i, 0));
        }
        int lines = rich().look(6);
        refused("book at its end", -1, x -> x.book(lines, 0));
        int[] noWhat = {-1, 4, LEAST, MOST};
        for (int what : noWhat) {
            refused("book 0 " + what, -1, x -> x.book(0, what));
        }
        int[] noLook = {-1, 13, LEAST, MOST};
        for (int what : noLook) {
            refused("look " + what, -1, x -> x.look(what));
        }
    }

    private static void chances() {
        int[] noGoes = {0, 100, -1, LEAST, MOST};
        int[] noSide = {-1, 2, LEAST, MOST};
        int[] noThree = {-1, 3, LEAST, MOST};
        for (int n : noGoes) {
            refused("goes " + n, -2, x -> x.goes(n, 0));
        }
        for (int what : noThree) {
            refused("goes 5 " + what, -2, x -> x.goes(5, what));
            refused("runs " + what, -1, x -> x.runs(what));
        }
        for (int d : NO_DAYS) {
            refused("odds " + d, -1, x -> x.odds(d));
            refused("holds " + d, -1, x -> x.holds(d, 0));
            refused("many 500 " + d, -1, x -> x.many(500, d));
            refused("bridges " + d, -1, x -> x.bridges(d, 0, 0));
            refused("hurry " + d, -1, x -> x.hurry(d, 0));
            refused("split " + d, -1, x -> x.split(d, 1));
        }
        for (int what : noSide) {
            refused("holds 5 " + what, -1, x -> x.holds(5, what));
            refused("bridges 5 0 " + what, -1, x -> x.bridges(5, 0, what));
            refused("hurry 5 " + what, -1, x -> x.hurry(5, what));
            refused("split 5 " + what, -1, x -> x.split(5, what));
            refused("game " + what, -1, x -> x.game(what));
            refused("along 2 5 " + what, -1, x -> x.along(2, 5, what));
            refused("choice 2 5 5 " + what, NOT_TOLD, x -> x.choice(2, 5, 5, what));
        }
        int[] noThousand = {-1, 1001, LEAST, MOST};
        for (int p : noThousand) {
            refused("many " + p, -1, x -> x.many(p, 5));
            refused("choice 2 5 " + p, NOT_TOLD, x -> x.choice(2, 5, p, 0));
            refused("bluff " + p + " 1 1", -1, x -> x.bluff(p, 1, 1));
            refused("bluff 1 " + p + " 1", -1, x -> x.bluff(1, p, 1));
            refused("bluff 1 1 " + p, -1, x -> x.bluff(1, 1, p));
        }
        int[] noMillion = {-1, 1000001, LEAST, MOST};
        for (int h : noMillion) {
            refused("bridges 5 " + h, -1, x -> x.bridges(5, h, 0));
            refused("soon " + h, -1, x -> x.soon(h));
        }
        refused("bridges by none", -1, x -> x.bridges(5, 1, 0));
        refused("bridges by none, the set", -1, x -> x.bridges(5, 1, 1));
        refused("soon by none", -1, x -> x.soon(1));
        refused("bluff, none threaten", -1, x -> x.bluff(0, 1000, 0));
    }

    private static void money() {
        int[] noShare = {-1, 10000, LEAST, MOST};
        for (int n : noShare) {
            refused("share " + n, -1, x -> x.share(n, 4));
        }
        refused("share more than all have", -1, x -> x.share(999, 4));
        int[] noAsk = {-1, 1000, LEAST, MOST};
        for (int n : noAsk) {
            refused("along 2 " + n, -1, x -> x.along(2, n, 0));
            refused("choice 2 " + n, NOT_TOLD, x -> x.choice(2, n, 5, 0));
        }
        for (int i : NO_LINK) {
            refused("share of " + i, -1, x -> x.share(1, i));
            refused("along from " + i, -1, x -> x.along(i, 1, 0));
            refused("choice of " + i, NOT_TOLD, x -> x.choice(i, 1, 1, 0));
        }
        int[] noMinute = {-1, 601, LEAST, MOST};
        for (int t : noMinute) {
            refused("money from " + t, -1, x -> x.money(t, 600));
            refused("money by " + t, -1, x -> x.money(0, t));
        }
        refused("money reaches none", -1, x -> x.money(600, 600));
    }

    private static void rest() {
        int[] noSigns = {-1, 2, 9, 16, 21, 22, LEAST, MOST};
        for (int what : noSigns) {
            refused("signs " + what, -1, x -> x.signs(what));
        }
        int[] noIll = {-1, 1000, LEAST, MOST};
        for (int a : noIll) {
            refused("ill from " + a, -1, x -> x.ill(a, 5));
        }
        int[] noLong = {0, 31, -1, LEAST, MOST};
        for (int k : noLong) {
            refused("ill for " + k, -1, x -> x.ill(0, k));
        }
    }

    /** Twelve LINKS, and no more. */
    private static void full() {
        Supplier<TwelveChain> twelve = () -> {
            TwelveChain x = new TwelveChain();
            for (int i = 0; i < 12; i++) {
                x.link(1 + i, i, i, i % 10);
            }
            x.paper(11);
            return x;
        };
        unchanged("a thirteenth link", -1, x -> x.link(5, 5, 5, 5), twelve, 0);
        unchanged("of 12", NOT_TOLD, x -> x.of(12, 0), twelve, 0);
        unchanged("phone 12", -1, x -> x.phone(12, 0), twelve, 0);
        unchanged("gap 12", -1, x -> x.gap(12), twelve, 0);
        unchanged("ask 11", -1, x -> x.ask(11, 1), twelve, 0);
        unchanged("ask 12", -1, x -> x.ask(12, 1), twelve, 0);
        unchanged("bridge 11", 0, x -> b(x.bridge(11)), twelve, 0);
        unchanged("bridge 12", 0, x -> b(x.bridge(12)), twelve, 0);
        unchanged("paper 11", 0, x -> b(x.paper(11)), twelve, 0);
        unchanged("paper 12", 0, x -> b(x.paper(12)), twelve, 0);
        unchanged("pay 11 12", 0, x -> b(x.pay(11, 12, 1)), twelve, 0);
        unchanged("signs 22", -1, x -> x.signs(22), twelve, 0);
    }

    /** DAY 9999, and no later one. */
    private static void lastDay() {
        Supplier<TwelveChain> last = () -> {
            TwelveChain x = new TwelveChain();
            x.link(5, 5, 5, 5);
            for (int i = 0; i < 166; i++) {
                x.days(60);
            }
            x.days(38);
            return x;
        };
        Due.is("day 9998", last.get().look(1), 9998);
        unchanged("days 2 from 9998", -1, x -> x.days(2), last, 0);
        unchanged("days 60 from 9998", -1, x -> x.days(60), last, 0);
        TwelveChain x = last.get();
        Due.is("days 1 from 9998", x.days(1), 0);
        Due.is("day 9999", x.look(1), 9999);
        Due.is("days 1 from 9999", x.days(1), -1);
        Due.is("day 9999 stays", x.look(1), 9999);
        Due.is("undo from 9999", x.undo(), true);
        Due.is("day 9998 again", x.look(1), 9998);
    }

    /** Without LINKS every call with a LINK is refused, and there is nothing to undo or to go back to. */
    private static void empty() {
        Supplier<TwelveChain> none = TwelveChain::new;
        int[] any = {-1, 0, 1, 11, LEAST, MOST};
        for (int i : any) {
            unchanged("none: set", 0, x -> b(x.set(0, i, 1)), none, 0);
            unchanged("none: ask", -1, x -> x.ask(i, 1), none, 0);
            unchanged("none: bridge", 0, x -> b(x.bridge(i)), none, 0);
            unchanged("none: pay", 0, x -> b(x.pay(i, 0, 1)), none, 0);
            unchanged("none: paper", 0, x -> b(x.paper(i)), none, 0);
            unchanged("none: join", 0, x -> b(x.join(i)), none, 0);
            unchanged("none: of", NOT_TOLD, x -> x.of(i, 0), none, 0);
            unchanged("none: phone", -1, x -> x.phone(i, 0), none, 0);
            unchanged("none: book", -1, x -> x.book(i, 0), none, 0);
            unchanged("none: share", -1, x -> x.share(0, i), none, 0);
            unchanged("none: along", -1, x -> x.along(i, 0, 0), none, 0);
            unchanged("none: choice", NOT_TOLD, x -> x.choice(i, 0, 0, 0), none, 0);
            unchanged("none: gap", -1, x -> x.gap(i), none, 0);
        }
        unchanged("none: holds", -1, x -> x.holds(5, 0), none, 0);
        unchanged("none: signs 10", -1, x -> x.signs(10), none, 0);
        unchanged("none: money", -1, x -> x.money(0, 600), none, 0);
        unchanged("none: wrote", -1, x -> x.wrote(), none, 0);
        unchanged("none: slowest", -1, x -> x.slowest(), none, 0);
        unchanged("none: game", -1, x -> x.game(0), none, 0);
        unchanged("none: hurry", -1, x -> x.hurry(5, 0), none, 0);
        unchanged("none: split", -1, x -> x.split(5, 0), none, 0);
        unchanged("none: end 1", 0, x -> b(x.end(1)), none, 0);
        unchanged("none: undo", 0, x -> b(x.undo()), none, 0);
        unchanged("none: image", 0, x -> b(x.image(false)), none, 0);
        Supplier<TwelveChain> pair = () -> purses(5, 5);
        unchanged("two links, and no image", 0, x -> b(x.image(false)), pair, 0);
    }

    private static void stays(String call, Call thought) {
        long answer = thought.of(rich());
        unchanged(call, answer, thought, RefusedTest::rich, 13);
    }

    /** Nothing of a thought stays, and it makes no DRAWS. */
    private static void thoughts() {
        stays("goes 1", x -> x.goes(1, 0));
        stays("goes 99", x -> x.goes(99, 2));
        stays("odds", x -> x.odds(60));
        stays("holds", x -> x.holds(60, 1));
        stays("many", x -> x.many(500, 60));
        stays("bridges", x -> x.bridges(60, 0, 1));
        stays("share", x -> x.share(5, 4));
        stays("along", x -> x.along(0, 999, 0));
        stays("choice", x -> x.choice(2, 5, 500, 1));
        stays("bluff", x -> x.bluff(1, 1, 1));
        stays("signs", x -> x.signs(0));
        stays("signs: order", x -> x.signs(15));
        stays("money", x -> x.money(0, 600));
        stays("ill", x -> x.ill(0, 30));
        stays("wrote", x -> x.wrote());
        stays("slowest", x -> x.slowest());
        stays("game", x -> x.game(0));
        stays("soon", x -> x.soon(0));
        stays("hurry", x -> x.hurry(60, 1));
        stays("split", x -> x.split(60, 1));
        stays("gap", x -> x.gap(2));
        stays("runs", x -> x.runs(2));
        stays("look", x -> x.look(12));
        stays("of", x -> x.of(2, 11));
        stays("phone", x -> x.phone(1, 1));
        stays("book", x -> x.book(0, 1));
        stays("end at its length", x -> b(x.end(13)));
    }
}
