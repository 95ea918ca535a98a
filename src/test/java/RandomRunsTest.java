import java.util.Random;

/** Runs of 512 calls by chance (the same ones each time), each answer held against Plain's. */
public final class RandomRunsTest {
    private static Random r;
    private static TwelveChain x;
    private static Plain p;
    private static String trace;
    private static int calls;

    public static void main(String[] args) {
        int runs = args.length > 0 ? Integer.parseInt(args[0]) : 1200;
        for (int run = 0; run < runs; run++) {
            r = new Random(run);
            x = new TwelveChain();
            p = new Plain();
            calls = 0;
            int most = r.nextInt(6) == 0 ? 12 : 1 + r.nextInt(7);
            int links = r.nextInt(most + 1);
            for (int i = 0; i < links; i++) {
                link();
            }
            // what is answered later is free
            while (calls < 512 - 30) {
                trace = "run " + run + " call " + calls;
                step(most);
            }
        }
        Due.end("RandomRunsTest");
    }

    private static void due(String call, long got, long want) {
        calls++;
        Due.is(trace + ": " + call, got, want);
    }

    private static void due(String call, boolean got, boolean want) {
        calls++;
        Due.is(trace + ": " + call, got, want);
    }

    private static int any(int a, int b) {
        if (r.nextInt(60) == 0) {
            int[] odd = {a - 1, b + 1, -1, Integer.MIN_VALUE, Integer.MAX_VALUE, 0, 1 << 16};
            return odd[r.nextInt(odd.length)];
        }
        return r.nextInt(8) == 0 ? (r.nextBoolean() ? a : b) : a + r.nextInt(b - a + 1);
    }

    private static int who() {
        return any(0, Math.max(0, p.w.size() - 1));
    }

    private static void link() {
        int a = any(1, r.nextInt(3) == 0 ? 999 : 200), b = any(r.nextInt(4) == 0 ? -9999 : -50, 300);
        int c = any(-60, r.nextInt(3) == 0 ? 999 : 80), d = any(0, 9);
        due("link", x.link(a, b, c, d), p.link(a, b, c, d));
    }

    private static void step(int most) {
        switch (r.nextInt(9)) {
            case 0 -> acts();
            case 1 -> settings(most);
            case 2 -> texts();
            case 3, 4 -> looks();
            case 5, 6 -> thoughts();
            default -> days();
        }
    }

    private static void acts() {
        int a = who(), b = who(), n = any(1, 99);
        switch (r.nextInt(6)) {
            case 0 -> due("ask " + a + " " + n, x.ask(a, n), p.ask(a, n));
            case 1 -> due("bridge " + a, x.bridge(a), p.bridge(a));
            case 2 -> due("pay " + a + " " + b + " " + n, x.pay(a, b, n), p.pay(a, b, n));
            case 3 -> due("paper " + a, x.paper(a), p.paper(a));
            case 4 -> due("join " + a, x.join(a), p.join(a));
            default -> due("undo", x.undo(), p.undo());
        }
    }

    private static void settings(int most) {
        switch (r.nextInt(12)) {
            case 0 -> {
                int v = r.nextInt();
                due("state", x.state(v), p.state(v));
            }
            case 1 -> {
                if (p.w.size() < most || most == 12) {
                    link();
                }
            }
            case 2 -> due("image taken", x.image(true), p.image(true));
            case 3 -> due("image", x.image(false), p.image(false));
            case 4, 5, 6 -> due("undo", x.undo(), p.undo());
            default -> {
                int what = any(0, 4), who = who();
                int v = what == 4 ? any(0, 1) : what == 3 ? any(0, 9) : any(-20, 300);
                due("set " + what + " " + who + " " + v, x.set(what, who, v), p.set(what, who, v));
            }
        }
    }

    private static void days() {
        int n = r.nextInt(4) == 0 ? any(1, 60) : any(1, 3);
        due("days " + n, x.days(n), p.days(n));
    }

    private static void looks() {
        int a = who();
        switch (r.nextInt(6)) {
            case 0, 1 -> {
                int what = any(0, 13);
                due("of " + a + " " + what, x.of(a, what), p.of(a, what));
            }
            case 2 -> {
                int what = any(0, 2);
                due("phone " + a + " " + what, x.phone(a, what), p.phone(a, what));
            }
            case 3 -> {
                int i = any(0, Math.max(0, p.w.book.size() - 1)), what = any(0, 3);
                due("book " + i + " " + what, x.book(i, what), p.book(i, what));
            }
            case 4 -> due("gap " + a, x.gap(a), p.gap(a));
            default -> {
                int what = any(0, 12);
                due("look " + what, x.look(what), p.look(what));
            }
        }
    }

    private static void thoughts() {
        int a = who(), what = any(0, 1), d = r.nextBoolean() ? any(1, 60) : any(1, 8), h = any(0, 1000000), w2 = any(0, 2);
        int p1 = any(0, 1000), p2 = any(0, 1000), p3 = any(0, 1000), n = r.nextBoolean() ? any(0, 999) : any(0, 60);
        switch (r.nextInt(20)) {
            case 0 -> due("goes " + d + " " + w2, x.goes(d, w2), p.goes(d, w2));
            case 1 -> due("odds " + d, x.odds(d), p.odds(d));
            case 2 -> due("holds " + d + " " + what, x.holds(d, what), p.holds(d, what));
            case 3 -> due("many " + p1 + " " + d, x.many(p1, d), p.many(p1, d));
            case 4 -> bridges(d, h, what);
            case 5 -> due("share " + n + " " + a, x.share(n, a), p.share(n, a));
            case 6 -> due("along " + a + " " + n + " " + what, x.along(a, n, what), p.along(a, n, what));
            case 7 -> due("choice " + a + " " + n + " " + p1 + " " + what, x.choice(a, n, p1, what), p.choice(a, n, p1, what));
            case 8 -> due("bluff " + p1 + " " + p2 + " " + p3, x.bluff(p1, p2, p3), p.bluff(p1, p2, p3));
            case 9 -> signs();
            case 10 -> {
                int t = any(0, 200), m = any(0, 400);
                due("money " + t + " " + m, x.money(t, m), p.money(t, m));
            }
            case 11 -> {
                int from = any(0, 40), k = any(1, 30);
                due("ill " + from + " " + k, x.ill(from, k), p.ill(from, k));
            }
            case 12 -> due("wrote", x.wrote(), p.wrote());
            case 13 -> due("slowest", x.slowest(), p.slowest());
            case 14 -> due("game " + what, x.game(what), p.game(what));
            case 15 -> due("soon " + h, x.soon(h), p.soon(h));
            case 16 -> due("hurry " + d + " " + what, x.hurry(d, what), p.hurry(d, what));
            case 17 -> due("split " + d + " " + what, x.split(d, what), p.split(d, what));
            case 18 -> due("runs " + w2, x.runs(w2), p.runs(w2));
            default -> due("goes " + d + " " + w2, x.goes(d, w2), p.goes(d, w2));
        }
    }

    private static void bridges(int d, int h, int what) {
        // near a bound that some set reaches
        int near = Math.max(0, p.split(d, 1)) + r.nextInt(3) - 1;
        int bound = r.nextBoolean() ? h : near;
        due("bridges " + d + " " + bound + " " + what, x.bridges(d, bound, what), p.bridges(d, bound, what));
    }

    private static void signs() {
        if (p.w.size() > 7) {
            return;
        }
        for (int what = 0; what < 18; what++) {
            due("signs " + what, x.signs(what), p.signs(what));
        }
    }

    // ---- texts

    private static void texts() {
        int k = any(0, 3);
        StringBuilder s = new StringBuilder();
        int lines = r.nextInt(25) == 0 ? 15 + r.nextInt(3) : r.nextInt(6);
        for (int i = 0; i < lines; i++) {
            s.append(line(k));
        }
        if (r.nextInt(3) == 0 && s.length() > 0) {
            spoil(s);
        }
        if (s.length() > 400) {
            s.setLength(400);
        }
        int[] five = new int[5];
        for (int at = 0; at < s.length(); at += 20) {
            for (int i = 0; i < 5; i++) {
                five[i] = 0;
                for (int c = at + 4 * i; c < at + 4 * i + 4; c++) {
                    five[i] = five[i] << 8 | (c < s.length() ? s.charAt(c) : 10);
                }
            }
            due("feed", x.feed(five[0], five[1], five[2], five[3], five[4]), p.feed(five));
        }
        int end = r.nextInt(20) == 0 ? any(0, 400) : s.length();
        due("end", x.end(end), p.end(end));
        due("text " + k + " \"" + s + "\"", x.text(k), p.text(k));
        due("fault 0 \"" + s + "\"", x.fault(0), p.fault(0));
        due("fault 1 \"" + s + "\"", x.fault(1), p.fault(1));
        due("fault 2", x.fault(2), p.fault(2));
    }

    private static void spoil(StringBuilder s) {
        int at = r.nextInt(s.length());
        String odd = " ;+-*/()<=>.09aZ\n\t!\u00e9,";
        char c = odd.charAt(r.nextInt(odd.length()));
        switch (r.nextInt(4)) {
            case 0 -> s.deleteCharAt(at);
            case 1 -> s.insert(at, c);
            case 2 -> s.setCharAt(at, c);
            default -> s.setLength(at);
        }
    }

    private static String blank() {
        return r.nextInt(10) == 0 ? "\n" : r.nextInt(10) == 0 ? "  " : " ";
    }

    private static String line(int k) {
        return switch (k) {
            case 1 -> "on" + blank() + any(0, r.nextInt(9) == 0 ? 999 : 30) + blank() + deed() + ";";
            case 2 -> {
                int from = any(0, 240);
                int to = r.nextInt(9) == 0 ? any(0, 240) : Math.min(240, from + 1 + r.nextInt(90));
                yield "link " + who() + " from " + from + blank() + "to " + to + ";";
            }
            case 3 -> "day " + any(0, r.nextInt(9) == 0 ? 999 : 40) + " link" + blank() + who() + blank() + ";";
            default -> word() + blank() + sum(2) + (r.nextInt(3) == 0 ? "" : " when " + test(3)) + ";";
        };
    }

    private static String deed() {
        return switch (r.nextInt(4)) {
            case 0 -> "ask " + who() + " " + any(1, 99);
            case 1 -> "bridge " + who();
            case 2 -> "pay " + who() + " " + who() + " " + any(1, 99);
            default -> "paper" + blank() + who();
        };
    }

    private static String word() {
        String[] words = {"ready", "leave", "give", "cost"};
        return words[r.nextInt(4)];
    }

    private static String sum(int depth) {
        StringBuilder s = new StringBuilder(unit());
        for (int i = r.nextInt(depth + 1); i > 0; i--) {
            int kind = r.nextInt(6);
            s.append(kind < 3 ? "+" + unit() : kind < 4 ? "-" + unit() : kind < 5 ? "*" + unit() : "/" + any(1, 40));
        }
        return s.toString();
    }

    private static String unit() {
        String[] names = {"link", "price", "purse", "worth", "slow", "day", "links", "bridged", "lacks"};
        return r.nextInt(3) == 0 ? "" + any(0, r.nextBoolean() ? 9 : 700) : names[r.nextInt(names.length)];
    }

    private static String test(int depth) {
        int kind = depth == 0 ? 0 : r.nextInt(7);
        return switch (kind) {
            case 1 -> "not " + test(r.nextInt(20) == 0 ? 9 : depth - 1);
            case 2 -> "(" + test(r.nextInt(20) == 0 ? 9 : depth - 1) + ")";
            case 3 -> test(depth - 1) + " and " + test(depth - 1);
            case 4 -> test(depth - 1) + " or " + test(depth - 1);
            default -> sum(1) + "<=>".charAt(r.nextInt(3)) + sum(1);
        };
    }
}
