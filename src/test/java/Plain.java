import java.util.ArrayDeque;
import java.util.ArrayList;
import java.util.Arrays;
import java.util.Deque;
import java.util.List;

/**
 * The document's words once more, as plainly as the whole Java library lets one say them and
 * without regard to time or room: RandomRunsTest holds the program against it.
 */
final class Plain {
    static final class One implements Cloneable {
        int price, purse, worth, slow;
        boolean ready, out, bridged;
        Integer moved;

        One copy() {
            try {
                return (One) clone();
            } catch (CloneNotSupportedException e) {
                throw new AssertionError(e);
            }
        }

        boolean gone() {
            return out || moved != null;
        }
    }

    /** All that an undo brings back. */
    static final class World {
        List<One> links = new ArrayList<>();
        int state, day, falls;
        List<int[]> book = new ArrayList<>();

        World copy() {
            World w = new World();
            for (One one : links) {
                w.links.add(one.copy());
            }
            w.state = state;
            w.day = day;
            w.falls = falls;
            w.book = new ArrayList<>(book);
            return w;
        }

        int size() {
            return links.size();
        }
    }

    interface Sum {
        int of(World w, int i);
    }

    interface Test {
        boolean of(World w, int i);
    }

    static final class LawLine {
        String word;
        Sum sum;
        Test when;
    }

    static final class Fault extends RuntimeException {
        private static final long serialVersionUID = 1;
        final int kind, place;

        Fault(int kind, int place) {
            this.kind = kind;
            this.place = place;
        }
    }

    static final class Told {
        List<LawLine> law = new ArrayList<>();
        List<Object[]> plan = new ArrayList<>();
        List<int[]> phones = new ArrayList<>(), records = new ArrayList<>();

        Told copy() {
            Told t = new Told();
            t.law = law;
            t.plan = plan;
            t.phones = phones;
            t.records = records;
            return t;
        }
    }

    World w = new World();
    Told told = new Told();
    StringBuilder tape = new StringBuilder();
    int fault, place = -1;
    Deque<World> kept = new ArrayDeque<>();
    World imageWorld;
    Told imageTold;

    // ---- TEXTS

    /** One token: its text, its place. */
    private record Token(String s, int place) {
        boolean isNumber() {
            return s.matches("[0-9]{1,4}");
        }
    }

    private List<Token> tokens;
    private int at, open;

    private void scan(String text) {
        tokens = new ArrayList<>();
        java.util.regex.Matcher m = java.util.regex.Pattern.compile("[A-Za-z]+|[0-9]+|[^ \\n]", java.util.regex.Pattern.DOTALL).matcher(text);
        while (m.find()) {
            tokens.add(new Token(m.group(), m.start()));
        }
        tokens.add(new Token("", text.length()));
        at = 0;
        open = 0;
    }

    private Token now() {
        return tokens.get(at);
    }

    private boolean take(String s) {
        if (now().s.equals(s)) {
            at++;
            return true;
        }
        return false;
    }

    private void need(String s) {
        if (!take(s)) {
            throw new Fault(1, now().place);
        }
    }

    private int number(int least, int most) {
        if (!now().isNumber()) {
            throw new Fault(1, now().place);
        }
        int n = Integer.parseInt(now().s);
        if (n < least || n > most) {
            throw new Fault(2, now().place);
        }
        at++;
        return n;
    }

    private Test b() {
        Test left = a();
        while (take("or")) {
            Test l = left, r = a();
            left = (x, i) -> l.of(x, i) || r.of(x, i);
        }
        return left;
    }

    private Test a() {
        Test left = c();
        while (take("and")) {
            Test l = left, r = c();
            left = (x, i) -> l.of(x, i) && r.of(x, i);
        }
        return left;
    }

    private Test c() {
        Token t = now();
        if (t.s.equals("not") || t.s.equals("(")) {
            if (open == 8) {
                throw new Fault(3, t.place);
            }
            open++;
            at++;
            Test inner;
            if (t.s.equals("not")) {
                Test in = c();
                inner = (x, i) -> !in.of(x, i);
            } else {
                inner = b();
                need(")");
            }
            open--;
            return inner;
        }
        Sum l = e();
        String sign = now().s;
        if (!sign.equals("<") && !sign.equals("=") && !sign.equals(">")) {
            throw new Fault(1, now().place);
        }
        at++;
        Sum r = e();
        return switch (sign) {
            case "<" -> (x, i) -> l.of(x, i) < r.of(x, i);
            case "=" -> (x, i) -> l.of(x, i) == r.of(x, i);
            default -> (x, i) -> l.of(x, i) > r.of(x, i);
        };
    }

    private Sum e() {
        Sum left = t();
        while (true) {
            Sum l = left;
            if (take("+")) {
                Sum r = t();
                left = (x, i) -> l.of(x, i) + r.of(x, i);
            } else if (take("-")) {
                Sum r = t();
                left = (x, i) -> l.of(x, i) - r.of(x, i);
            } else {
                return left;
            }
        }
    }

    private Sum t() {
        Sum left = u();
        while (true) {
            Sum l = left;
            if (take("*")) {
                Sum r = u();
                left = (x, i) -> l.of(x, i) * r.of(x, i);
            } else if (take("/")) {
                int n = number(1, 9999);
                left = (x, i) -> l.of(x, i) / n;
            } else {
                return left;
            }
        }
    }

    private Sum u() {
        Token t = now();
        if (t.isNumber()) {
            at++;
            int n = Integer.parseInt(t.s);
            return (x, i) -> n;
        }
        Sum s = switch (t.s) {
            case "link" -> (x, i) -> i;
            case "price" -> (x, i) -> x.links.get(i).price;
            case "purse" -> (x, i) -> x.links.get(i).purse;
            case "worth" -> (x, i) -> x.links.get(i).worth;
            case "slow" -> (x, i) -> x.links.get(i).slow;
            case "day" -> (x, i) -> x.day;
            case "links" -> (x, i) -> x.size();
            case "bridged" -> (x, i) -> x.links.get(i).bridged ? 1 : 0;
            case "lacks" -> (x, i) -> lacks(x, i);
            default -> throw new Fault(1, t.place);
        };
        at++;
        return s;
    }

    private void seventeenth(int lines, int place) {
        if (lines == 16) {
            throw new Fault(3, place);
        }
    }

    private List<LawLine> law() {
        List<LawLine> lines = new ArrayList<>();
        while (!now().s.isEmpty()) {
            LawLine line = new LawLine();
            line.word = now().s;
            if (!List.of("ready", "leave", "give", "cost").contains(line.word)) {
                throw new Fault(1, now().place);
            }
            seventeenth(lines.size(), now().place);
            at++;
            line.sum = e();
            if (take("when")) {
                line.when = b();
            }
            need(";");
            lines.add(line);
        }
        return lines;
    }

    private List<Object[]> plan() {
        List<Object[]> lines = new ArrayList<>();
        while (!now().s.isEmpty()) {
            int p = now().place;
            need("on");
            seventeenth(lines.size(), p);
            int day = number(0, 999), a, b = -1, n = 0;
            String deed = now().s;
            if (!List.of("ask", "bridge", "pay", "paper").contains(deed)) {
                throw new Fault(1, now().place);
            }
            at++;
            a = number(0, w.size() - 1);
            if (deed.equals("pay")) {
                int q = now().place;
                b = number(0, w.size() - 1);
                if (a == b) {
                    throw new Fault(2, q);
                }
            }
            if (deed.equals("pay") || deed.equals("ask")) {
                n = number(1, 99);
            }
            need(";");
            lines.add(new Object[] {day, deed, a, b, n});
        }
        return lines;
    }

    private List<int[]> phones() {
        List<int[]> lines = new ArrayList<>();
        while (!now().s.isEmpty()) {
            int p = now().place;
            need("link");
            seventeenth(lines.size(), p);
            int link = number(0, w.size() - 1);
            need("from");
            int from = number(0, 240);
            need("to");
            int q = now().place, to = number(0, 240);
            if (to <= from) {
                throw new Fault(2, q);
            }
            need(";");
            lines.add(new int[] {link, from, to});
        }
        return lines;
    }

    private List<int[]> records() {
        List<int[]> lines = new ArrayList<>();
        while (!now().s.isEmpty()) {
            int p = now().place;
            need("day");
            seventeenth(lines.size(), p);
            int day = number(0, 999);
            need("link");
            int link = number(0, w.size() - 1);
            need(";");
            lines.add(new int[] {day, link});
        }
        return lines;
    }

    int text(int k) {
        fault = 0;
        place = -1;
        String text = tape.toString();
        tape.setLength(0);
        scan(text);
        try {
            switch (k) {
                case 0:
                    told.law = law();
                    return told.law.size();
                case 1:
                    told.plan = plan();
                    kept.clear();
                    return told.plan.size();
                case 2:
                    told.phones = phones();
                    return told.phones.size();
                case 3:
                    told.records = records();
                    return told.records.size();
                default:
                    return -1;
            }
        } catch (Fault f) {
            fault = f.kind;
            place = f.place;
            return -1;
        }
    }

    // ---- the chain

    /** First and last LINK of each PART. */
    static List<int[]> parts(World x) {
        List<int[]> parts = new ArrayList<>();
        int n = x.size(), from = 0;
        if (n == 1) {
            parts.add(new int[] {0, 0});
        }
        for (int i = 1; i < n; i++) {
            if (i == n - 1 || x.links.get(i).bridged) {
                parts.add(new int[] {from, i});
                from = i;
            }
        }
        return parts;
    }

    static int lacks(World x, int i) {
        boolean[] seen = new boolean[x.size()];
        for (int[] part : parts(x)) {
            if (part[0] <= i && i <= part[1]) {
                Arrays.fill(seen, part[0], part[1] + 1, true);
            }
        }
        int n = 0;
        for (int k = 0; k < seen.length; k++) {
            n += seen[k] && !x.links.get(k).ready ? 1 : 0;
        }
        return n;
    }

    int tells(World x, String word, int i) {
        One one = x.links.get(i);
        int v = switch (word) {
            case "ready" -> 300 - 30 * one.slow;
            case "leave" -> 0;
            case "give" -> Math.floorDiv(one.worth, 4);
            default -> 3;
        };
        for (LawLine line : told.law) {
            if (line.word.equals(word) && (line.when == null || line.when.of(x, i))) {
                v = line.sum.of(x, i);
                break;
            }
        }
        int most = word.equals("give") ? 999 : word.equals("cost") ? 99 : 1000;
        return v < 0 ? 0 : v > most ? most : v;
    }

    static int gapOf(World x, int i) {
        if (i == x.size() - 1) {
            return 0;
        }
        int has = x.links.get(i).purse;
        if (i > 0) {
            has += x.links.get(i).price;
        }
        return Math.max(0, x.links.get(i + 1).price - has);
    }

    static boolean has(World x, int i) {
        return i >= 0 && i < x.size();
    }

    private static void note(World x, int what, int link, int n) {
        if (x.book.size() < 150) {
            x.book.add(new int[] {x.day, what, link, n});
        }
    }

    private int ask(World x, int i, int n) {
        if (!has(x, i) || i == x.size() - 1 || n < 1 || n > 99 || x.links.get(i + 1).gone()) {
            return -1;
        }
        One one = x.links.get(i + 1);
        int g = Math.min(tells(x, "give", i + 1), Math.min(n, one.price - 1));
        one.price -= g;
        one.worth = Math.max(-999, one.worth - g);
        note(x, 0, i + 1, g);
        return g;
    }

    static boolean canBridge(World x, int i) {
        return has(x, i) && i != 0 && i != x.size() - 1 && !x.links.get(i).bridged && !x.links.get(i).gone();
    }

    private boolean bridge(World x, int i) {
        if (!canBridge(x, i)) {
            return false;
        }
        x.links.get(i).bridged = true;
        note(x, 1, i, 0);
        return true;
    }

    private boolean pay(World x, int a, int b, int n) {
        if (!has(x, a) || !has(x, b) || a == b || n < 1 || n > 99) {
            return false;
        }
        if (x.links.get(a).purse - n < -9999 || x.links.get(b).purse + n > 9999) {
            return false;
        }
        x.links.get(a).purse -= n;
        x.links.get(b).purse += n;
        note(x, 2, a, n);
        return true;
    }

    private boolean paper(World x, int i) {
        if (!has(x, i) || x.links.get(i).ready || x.links.get(i).gone()) {
            return false;
        }
        x.links.get(i).ready = true;
        note(x, 3, i, 0);
        return true;
    }

    private static boolean draw(World x, int chance, boolean thought) {
        if (thought) {
            return chance >= 500;
        }
        x.state = (int) (x.state * 1664525L + 1013904223L);
        return Integer.toUnsignedLong(x.state) / 256 % 1000 < chance;
    }

    private int day(World x, boolean thought) {
        for (Object[] p : told.plan) {
            if ((int) p[0] == x.day) {
                switch ((String) p[1]) {
                    case "ask" -> ask(x, (int) p[2], (int) p[4]);
                    case "bridge" -> bridge(x, (int) p[2]);
                    case "pay" -> pay(x, (int) p[2], (int) p[3], (int) p[4]);
                    default -> paper(x, (int) p[2]);
                }
            }
        }
        for (int i = 0; i < x.size(); i++) {
            One one = x.links.get(i);
            if (!one.ready && !one.gone() && draw(x, tells(x, "ready", i), thought)) {
                one.ready = true;
                note(x, 3, i, 0);
            }
        }
        for (int i = 0; i < x.size(); i++) {
            One one = x.links.get(i);
            int leave = tells(x, "leave", i);
            if (!one.gone() && leave > 0 && draw(x, leave, thought)) {
                one.out = true;
                x.falls++;
                note(x, 4, i, 0);
                for (int k = Math.max(0, i - 1); k <= Math.min(x.size() - 1, i + 1); k++) {
                    if (x.links.get(k).moved == null) {
                        x.links.get(k).ready = false;
                    }
                }
            }
        }
        int moved = 0;
        for (int[] part : parts(x)) {
            boolean can = true;
            for (int i = part[0]; i <= part[1]; i++) {
                One one = x.links.get(i);
                can &= one.ready && !one.out && (i == part[1] || gapOf(x, i) == 0);
            }
            for (int i = part[0]; can && i <= part[1]; i++) {
                One one = x.links.get(i);
                if (one.moved == null && !(i == part[1] && one.bridged)) {
                    one.moved = x.day;
                    note(x, 5, i, 0);
                    moved++;
                }
            }
        }
        for (int i = 0; i < x.size(); i++) {
            One one = x.links.get(i);
            if (one.bridged && !one.gone()) {
                one.purse = Math.max(-9999, one.purse - tells(x, "cost", i));
            }
        }
        x.day++;
        return moved;
    }

    // ---- the calls

    private void keep() {
        kept.addLast(w.copy());
        if (kept.size() > 6) {
            kept.removeFirst();
        }
    }

    private static boolean in(int v, int a, int b) {
        return a <= v && v <= b;
    }

    int state(int v) {
        int was = w.state;
        w.state = v;
        kept.clear();
        return was;
    }

    int link(int price, int purse, int worth, int slow) {
        if (w.size() == 12 || !in(price, 1, 999) || !in(purse, -9999, 9999) || !in(worth, -999, 999) || !in(slow, 0, 9)) {
            return -1;
        }
        One one = new One();
        one.price = price;
        one.purse = purse;
        one.worth = worth;
        one.slow = slow;
        w.links.add(one);
        kept.clear();
        return w.size() - 1;
    }

    boolean set(int what, int who, int v) {
        if (!has(w, who)) {
            return false;
        }
        One one = w.links.get(who);
        if (what == 0 && in(v, 1, 999)) {
            one.price = v;
        } else if (what == 1 && in(v, -9999, 9999)) {
            one.purse = v;
        } else if (what == 2 && in(v, -999, 999)) {
            one.worth = v;
        } else if (what == 3 && in(v, 0, 9)) {
            one.slow = v;
        } else if (what == 4 && in(v, 0, 1)) {
            one.ready = v == 1;
        } else {
            return false;
        }
        kept.clear();
        return true;
    }

    /** Keeps what was before, if the deed was done. */
    private boolean done(World before, boolean good) {
        if (good) {
            kept.addLast(before);
            if (kept.size() > 6) {
                kept.removeFirst();
            }
        }
        return good;
    }

    int ask(int i, int n) {
        World before = w.copy();
        int g = ask(w, i, n);
        done(before, g >= 0);
        return g;
    }

    boolean bridge(int i) {
        World before = w.copy();
        return done(before, bridge(w, i));
    }

    boolean pay(int a, int b, int n) {
        World before = w.copy();
        return done(before, pay(w, a, b, n));
    }

    boolean paper(int i) {
        World before = w.copy();
        return done(before, paper(w, i));
    }

    boolean join(int i) {
        if (!has(w, i) || !w.links.get(i).out) {
            return false;
        }
        keep();
        w.links.get(i).out = false;
        w.links.get(i).ready = false;
        note(w, 6, i, 0);
        return true;
    }

    int days(int n) {
        if (!in(n, 1, 60) || w.day + n > 9999) {
            return -1;
        }
        int moved = 0;
        for (int i = 0; i < n; i++) {
            keep();
            moved += day(w, false);
        }
        return moved;
    }

    int feed(int... five) {
        if (tape.length() > 380) {
            return -1;
        }
        for (int v : five) {
            for (int shift = 24; shift >= 0; shift -= 8) {
                tape.append((char) (v >>> shift & 255));
            }
        }
        return tape.length();
    }

    boolean end(int n) {
        if (!in(n, 0, tape.length())) {
            return false;
        }
        tape.setLength(n);
        return true;
    }

    int fault(int what) {
        return what == 0 ? fault : what == 1 ? place : -1;
    }

    int of(int i, int what) {
        if (!has(w, i) || !in(what, 0, 13)) {
            return -100000;
        }
        One one = w.links.get(i);
        int[] all = {one.price, one.purse, one.worth, one.slow, one.ready ? 1 : 0, one.out ? 1 : 0, one.bridged ? 1 : 0,
            one.moved == null ? -1 : one.moved, tells(w, "ready", i), tells(w, "leave", i), tells(w, "give", i),
            tells(w, "cost", i), gapOf(w, i) == 0 ? 1 : 0, lacks(w, i)};
        return all[what];
    }

    int phone(int i, int what) {
        if (!has(w, i) || !in(what, 0, 2)) {
            return -1;
        }
        int[] line = window(i);
        return what < 2 ? line[what + 1] : (int) told.records.stream().filter(r -> r[1] == i).count();
    }

    private int[] window(int i) {
        int[] line = {i, 0, 240};
        for (int[] p : told.phones) {
            line = p[0] == i ? p : line;
        }
        return line;
    }

    int book(int i, int what) {
        return in(i, 0, w.book.size() - 1) && in(what, 0, 3) ? w.book.get(i)[what] : -1;
    }

    int goes(int n, int what) {
        if (!in(n, 1, 99) || !in(what, 0, 2)) {
            return -2;
        }
        World x = w.copy();
        for (int i = 0; i < n; i++) {
            day(x, true);
        }
        int moved = 0, latest = -1;
        for (One one : x.links) {
            moved += one.moved != null ? 1 : 0;
            latest = one.moved != null ? Math.max(latest, one.moved) : latest;
        }
        return what == 0 ? moved : what == 2 ? x.falls : moved == x.size() ? latest : -1;
    }

    private static long likely(int ready, int d) {
        long left = 1000000;
        for (int i = 0; i < d; i++) {
            left = left * (1000 - ready) / 1000;
        }
        return 1000000 - left;
    }

    private long odds(World x, int from, int to, int d, int hurried) {
        long all = 1000000;
        for (int i = from; i <= to; i++) {
            One one = x.links.get(i);
            if (one.out) {
                return 0;
            }
            if (!one.ready) {
                int slow = one.slow;
                if (i == hurried) {
                    one.slow = 0;
                }
                all = all * likely(tells(x, "ready", i), d) / 1000000;
                one.slow = slow;
            }
        }
        return all;
    }

    int odds(int d) {
        return in(d, 1, 60) ? (int) odds(w, 0, w.size() - 1, d, -1) : -1;
    }

    int holds(int d, int what) {
        int best = -1;
        if (!in(d, 1, 60) || !in(what, 0, 1)) {
            return -1;
        }
        for (int i = w.size() - 1; i >= 0; i--) {
            if (!w.links.get(i).ready && (best < 0 || likely(tells(w, "ready", i), d) <= likely(tells(w, "ready", best), d))) {
                best = i;
            }
        }
        return best < 0 || what == 0 ? best : (int) likely(tells(w, "ready", best), d);
    }

    int many(int p, int d) {
        if (!in(p, 0, 1000) || !in(d, 1, 60)) {
            return -1;
        }
        long all = 1000000;
        int n = 0;
        while (n < 60) {
            all = all * likely(p, d) / 1000000;
            if (all < 500000) {
                break;
            }
            n++;
        }
        return n;
    }

    /** PARTS' ODDS, the least, if those of a set were BRIDGED besides; ready as it is without. */
    private long leastOdds(int d, int set) {
        List<Integer> marks = new ArrayList<>();
        int n = w.size();
        for (int i = 0; i < n; i++) {
            if (i == 0 || i == n - 1 || w.links.get(i).bridged || (set >> i & 1) == 1) {
                marks.add(i);
            }
        }
        long least = 1000000;
        if (n == 1) {
            marks.add(0);
        }
        for (int k = 1; k < marks.size(); k++) {
            least = Math.min(least, odds(w, marks.get(k - 1), marks.get(k), d, -1));
        }
        return least;
    }

    int bridges(int d, int h, int what) {
        if (!in(d, 1, 60) || !in(h, 0, 1000000) || !in(what, 0, 1)) {
            return -1;
        }
        int best = -1;
        long[] bestKey = null;
        for (int set = 0; set < 1 << w.size(); set++) {
            int sum = 0;
            boolean can = true;
            for (int i = 0; i < w.size(); i++) {
                if ((set >> i & 1) == 1) {
                    can &= canBridge(w, i);
                    sum += can ? d * tells(w, "cost", i) : 0;
                }
            }
            long[] key = {sum, Integer.bitCount(set), set};
            if (can && (bestKey == null || Arrays.compare(key, bestKey) < 0) && leastOdds(d, set) >= h) {
                best = set;
                bestKey = key;
            }
        }
        return best < 0 ? -1 : what == 1 ? best : (int) bestKey[0];
    }

    int share(int n, int link) {
        if (!in(n, 0, 9999) || !has(w, link)) {
            return -1;
        }
        int[] most = new int[w.size()], gift = new int[w.size()];
        for (int i = 0; i < w.size(); i++) {
            most[i] = w.links.get(i).gone() ? 0 : Math.max(0, w.links.get(i).worth);
        }
        int left = n;
        while (left > 0) {
            boolean some = false;
            for (int i = 0; i < w.size() && left > 0; i++) {
                if (gift[i] < most[i]) {
                    gift[i]++;
                    left--;
                    some = true;
                }
            }
            if (!some) {
                return -1;
            }
        }
        return gift[link];
    }

    int along(int link, int n, int what) {
        if (!has(w, link) || !in(n, 0, 999) || !in(what, 0, 1)) {
            return -1;
        }
        int givers = 0, left = n;
        for (int i = link; i < w.size(); i++) {
            int g = w.links.get(i).gone() ? 0 : Math.min(left, tells(w, "give", i));
            givers += g > 0 ? 1 : 0;
            left -= g;
        }
        return what == 0 ? left : givers;
    }

    int choice(int link, int n, int p, int what) {
        if (!has(w, link) || !in(n, 0, 999) || !in(p, 0, 1000) || !in(what, 0, 1)) {
            return -100000;
        }
        int worth = w.links.get(link).worth;
        int[] v = {worth - n, Math.floorDiv(p * worth + (1000 - p) * Math.max(worth - n, 0), 1000) - tells(w, "cost", link), 0};
        int best = Math.max(v[0], Math.max(v[1], v[2]));
        return what == 1 ? best : v[0] == best ? 0 : v[1] == best ? 1 : 2;
    }

    int bluff(int p, int a, int b) {
        if (!in(p, 0, 1000) || !in(a, 0, 1000) || !in(b, 0, 1000)) {
            return -1;
        }
        long over = (long) p * a, under = over + (1000L - p) * b;
        return under == 0 ? -1 : (int) (over * 1000000 / under);
    }

    // ---- SIGNS by trying all orders

    private int signBest, signMost;
    private List<Integer> signOrder;

    private void sign(List<Integer> order, int minute) {
        signMost = Math.max(signMost, order.size());
        if (order.size() == w.size() && (signBest < 0 || minute < signBest)) {
            signBest = minute;
            signOrder = new ArrayList<>(order);
        }
        for (int i = 0; i < w.size(); i++) {
            int[] line = window(i);
            int done = Math.max(minute, line[1]) + 10;
            if (!order.contains(i) && done <= line[2]) {
                order.add(i);
                sign(order, done);
                order.remove(order.size() - 1);
            }
        }
    }

    int signs(int what) {
        signBest = -1;
        signMost = 0;
        signOrder = new ArrayList<>();
        sign(new ArrayList<>(), 0);
        if (what == 0 || what == 1) {
            return what == 0 ? signBest : signMost;
        }
        return in(what, 10, 9 + signOrder.size()) ? signOrder.get(what - 10) : -1;
    }

    int money(int t, int m) {
        if (!in(t, 0, 600) || !in(m, 0, 600)) {
            return -1;
        }
        int i = 0, minute = t;
        while (i < w.size() && minute + 10 + w.links.get(i).slow <= m) {
            minute += 10 + w.links.get(i).slow;
            i++;
        }
        return i - 1;
    }

    int ill(int a, int k) {
        if (!in(a, 0, 999) || !in(k, 1, 30)) {
            return -1;
        }
        int set = 0;
        for (int i = 0; i < w.size(); i++) {
            int link = i;
            set |= told.records.stream().anyMatch(r -> r[1] == link && r[0] >= a && r[0] < a + k) ? 0 : 1 << i;
        }
        return set;
    }

    int wrote() {
        if (w.size() < 2) {
            return -1;
        }
        int best = -1, least = 99;
        for (int d = 0; d < 100; d++) {
            int day = d;
            int with = (int) told.records.stream().filter(r -> r[0] <= day).map(r -> r[1]).distinct().count();
            int greater = Math.max(with, w.size() - with);
            if (greater < least) {
                least = greater;
                best = d;
            }
        }
        return best;
    }

    int slowest() {
        int best = -1;
        for (int i = 0; i < w.size(); i++) {
            if (w.links.get(i).moved == null && (best < 0 || tells(w, "ready", i) < tells(w, "ready", best))) {
                best = i;
            }
        }
        return best;
    }

    private int nim(int[] heaps) {
        int x = 0;
        for (int h : heaps) {
            x ^= grundy(h);
        }
        return x;
    }

    private int grundy(int h) {
        boolean[] seen = new boolean[5];
        for (int n = 1; n <= 3 && n <= h; n++) {
            seen[grundy(h - n)] = true;
        }
        int g = 0;
        while (seen[g]) {
            g++;
        }
        return g;
    }

    int game(int what) {
        int[] heaps = new int[w.size()];
        for (int i = 0; i < heaps.length; i++) {
            heaps[i] = w.links.get(i).moved == null ? w.links.get(i).slow : 0;
        }
        for (int i = 0; i < heaps.length && in(what, 0, 1); i++) {
            for (int n = 1; n <= 3 && n <= heaps[i]; n++) {
                heaps[i] -= n;
                boolean wins = nim(heaps) == 0;
                heaps[i] += n;
                if (wins) {
                    return what == 0 ? i : n;
                }
            }
        }
        return -1;
    }

    int soon(int h) {
        for (int d = 1; d <= 60 && in(h, 0, 1000000); d++) {
            if (odds(d) >= h) {
                return d;
            }
        }
        return -1;
    }

    int hurry(int d, int what) {
        int best = -1;
        long most = -1;
        for (int i = 0; i < w.size() && in(d, 1, 60) && in(what, 0, 1); i++) {
            long o = odds(w, 0, w.size() - 1, d, i);
            if (o > most) {
                most = o;
                best = i;
            }
        }
        return what == 0 ? best : (int) most;
    }

    int split(int d, int what) {
        int best = -1;
        long most = -1;
        for (int i = 0; i < w.size() && in(d, 1, 60) && in(what, 0, 1); i++) {
            if (canBridge(w, i) && leastOdds(d, 1 << i) > most) {
                most = leastOdds(d, 1 << i);
                best = i;
            }
        }
        return what == 0 ? best : (int) most;
    }

    int gap(int i) {
        return has(w, i) ? gapOf(w, i) : -1;
    }

    int runs(int what) {
        int longest = 0, first = -1, poorest = -1;
        for (int i = 0; i < w.size(); i++) {
            int k = i;
            while (k < w.size() && !w.links.get(k).gone() && gapOf(w, k) == 0) {
                k++;
            }
            if (k - i > longest) {
                longest = k - i;
                first = i;
            }
            if (k > i && (poorest < 0 || w.links.get(i).purse < w.links.get(poorest).purse)) {
                poorest = i;
            }
        }
        return what == 0 ? longest : what == 1 ? first : what == 2 ? poorest : -1;
    }

    boolean undo() {
        if (kept.isEmpty()) {
            return false;
        }
        w = kept.removeLast();
        return true;
    }

    boolean image(boolean taken) {
        if (taken) {
            imageWorld = w.copy();
            imageTold = told.copy();
            return true;
        }
        if (imageWorld == null) {
            return false;
        }
        w = imageWorld.copy();
        told = imageTold.copy();
        kept.clear();
        return true;
    }

    int look(int what) {
        int moved = 0, bridged = 0;
        for (int i = 0; i < w.size(); i++) {
            moved |= w.links.get(i).moved != null ? 1 << i : 0;
            bridged |= w.links.get(i).bridged ? 1 << i : 0;
        }
        int[] all = {w.size(), w.day, w.falls, moved, bridged, parts(w).size(), w.book.size(), w.state, told.law.size(),
            told.plan.size(), told.phones.size(), told.records.size(), kept.size()};
        return in(what, 0, 12) ? all[what] : -1;
    }
}
