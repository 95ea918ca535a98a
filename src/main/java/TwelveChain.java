/**
 * Twelve in a chain: links that each sell to the one below and buy from the one above.
 * What each call answers stands in the document's promises; README.md tells how to use it.
 */
public final class TwelveChain {
    /** None. */
    public static final int NONE = -1;

    private static final int NOT_TOLD = NONE - 99999;
    private static final int MOST_LINKS = 12;
    private static final int MOST_LINES = 16;
    private static final int MOST_BYTES = 400;
    private static final int MOST_OPEN = 8;
    private static final int MOST_KEPT = 6;
    private static final int MOST_DAYS = 60;
    private static final int MOST_MANY = 60;
    private static final int BOOK_LINES = 150;
    private static final int BOOK_ROW = 4;
    private static final int ROW = 5;
    private static final int MILLION = 1000000;
    private static final int LAST_DAY = 9999;
    private static final int PURSE_BOUND = 9999;
    private static final int WORTH_BOUND = 999;
    private static final int MORNING = 240;
    private static final int SIGNING = 10;

    private static final int LAW_TEXT = 0;
    private static final int PLAN_TEXT = 1;
    private static final int PHONES_TEXT = 2;
    private static final int RECORDS_TEXT = 3;

    private static final int ASKED = 0;
    private static final int NOW_BRIDGED = 1;
    private static final int PAID = 2;
    private static final int NOW_READY = 3;
    private static final int NOW_OUT = 4;
    private static final int NOW_MOVED = 5;
    private static final int JOINED = 6;

    /** The keywords of all texts, a blank behind each; a word's number is its place among them. */
    private static final String WORDS = "ready leave give cost when or and not link price purse worth slow day links bridged lacks on ask bridge pay paper from to ";
    private static final int READY = 0;
    private static final int LEAVE = 1;
    private static final int GIVE = 2;
    private static final int COST = 3;
    private static final int WHEN = 4;
    private static final int OR = 5;
    private static final int AND = 6;
    private static final int NOT = 7;
    private static final int LINK = 8;
    private static final int PRICE = 9;
    private static final int PURSE = 10;
    private static final int WORTH = 11;
    private static final int SLOW = 12;
    private static final int DAY = 13;
    private static final int LINKS = 14;
    private static final int BRIDGED = 15;
    private static final int LACKS = 16;
    private static final int ON = 17;
    private static final int ASK = 18;
    private static final int BRIDGE = 19;
    private static final int PAY = 20;
    private static final int PAPER = 21;
    private static final int FROM = 22;
    private static final int TO = 23;
    /** Tokens that are no keywords; a sign's token is its character, 40 to 62. */
    private static final int NUMBER = 100;
    private static final int END = 101;
    private static final int WRONG = 102;

    private final Chain chain = new Chain(false);
    private final Chain thought = new Chain(true);
    private final Texts texts = new Texts();
    private final int[] pages = new int[BOOK_LINES * BOOK_ROW];
    private final Deeds deeds = new Deeds(texts, pages);
    private final Kept kept = new Kept();
    private final Tape tape = new Tape();
    private final Teller teller = new Teller(tape);
    private final Likely likely = new Likely(texts.law);
    private final Telephone telephone = new Telephone();
    private final Chain takenChain = new Chain(false);
    private final Texts takenTexts = new Texts();
    private final int[] takenPages = new int[BOOK_LINES * BOOK_ROW];
    private boolean hasImage;

    /** Nobody. */
    public TwelveChain() {
    }

    /** STATE is told: what it was. */
    public int state(int v) {
        int was = chain.state;
        chain.state = v;
        kept.forgetAll();
        return was;
    }

    /** A LINK: its number. */
    public int link(int price, int purse, int worth, int slow) {
        if (chain.count >= MOST_LINKS || !canHave(0, price) || !canHave(1, purse) || !canHave(2, worth) || !canHave(3, slow)) {
            return NONE;
        }
        Link one = chain.at(chain.count);
        one.makeNew(price, purse, worth, slow);
        chain.count++;
        kept.forgetAll();
        telephone.forgetAll();
        return chain.count - 1;
    }

    /** What 0 PRICE, 1 PURSE, 2 WORTH, 3 SLOW, 4 READY of LINK who. */
    public boolean set(int what, int who, int v) {
        if (!chain.has(who) || !canHave(what, v)) {
            return false;
        }
        Link one = chain.at(who);
        switch (what) {
            case 0: one.price = v; break;
            case 1: one.purse = v; break;
            case 2: one.worth = v; break;
            case 3: one.slow = v; break;
            default: one.ready = v; break;
        }
        kept.forgetAll();
        return true;
    }

    private static boolean canHave(int what, int v) {
        switch (what) {
            case 0: return within(v, 1, 999);
            case 1: return within(v, -PURSE_BOUND, PURSE_BOUND);
            case 2: return within(v, -WORTH_BOUND, WORTH_BOUND);
            case 3: return within(v, 0, 9);
            case 4: return within(v, 0, 1);
            default: return false;
        }
    }

    private static boolean within(int v, int least, int most) {
        return v >= least && v <= most;
    }

    /** To ASK: what is given. */
    public int ask(int link, int n) {
        if (!deeds.canAsk(chain, link, n)) {
            return NONE;
        }
        kept.keep(chain);
        return deeds.askFor(chain, link, n);
    }

    /** To BRIDGE. */
    public boolean bridge(int link) {
        if (!chain.canBridge(link)) {
            return false;
        }
        kept.keep(chain);
        deeds.putBridge(chain, link);
        return true;
    }

    /** To PAY. */
    public boolean pay(int a, int b, int n) {
        if (!deeds.canHandOver(chain, a, b, n)) {
            return false;
        }
        kept.keep(chain);
        deeds.handOver(chain, a, b, n);
        return true;
    }

    /** PAPER. */
    public boolean paper(int link) {
        if (!deeds.canGetReady(chain, link)) {
            return false;
        }
        kept.keep(chain);
        deeds.getReady(chain, link);
        return true;
    }

    /** To JOIN. */
    public boolean join(int link) {
        if (!chain.has(link) || chain.at(link).out == 0) {
            return false;
        }
        kept.keep(chain);
        deeds.comeIn(chain, link);
        return true;
    }

    /** DAYS go by: how many MOVED. */
    public int days(int n) {
        if (!within(n, 1, MOST_DAYS) || chain.day + n > LAST_DAY) {
            return NONE;
        }
        int moved = 0;
        for (int i = 0; i < n; i++) {
            kept.keep(chain);
            moved += deeds.oneDay(chain);
        }
        return moved;
    }

    /** Twenty bytes come behind the TAPE: how many it has. */
    public int feed(int a, int b, int c, int d, int e) {
        if (tape.length + 20 > MOST_BYTES) {
            return NONE;
        }
        tape.put(a);
        tape.put(b);
        tape.put(c);
        tape.put(d);
        tape.put(e);
        return tape.length;
    }

    /** The TAPE has its first n bytes alone. */
    public boolean end(int n) {
        if (!within(n, 0, tape.length)) {
            return false;
        }
        tape.length = n;
        return true;
    }

    /** The TAPE, empty then, is TEXT k: how many lines. */
    public int text(int k) {
        int lines = teller.tell(k, texts, chain.count);
        if (lines != NONE && k == PLAN_TEXT) {
            kept.forgetAll();
        }
        if (lines != NONE && k == PHONES_TEXT) {
            telephone.forgetAll();
        }
        return lines;
    }

    /** Of the latest text(): what 0 the FAULT, 1 its place. */
    public int fault(int what) {
        switch (what) {
            case 0: return teller.fault;
            case 1: return teller.place;
            default: return NONE;
        }
    }

    /** What there is to tell of a LINK. */
    public int of(int link, int what) {
        if (!chain.has(link)) {
            return NOT_TOLD;
        }
        Link one = chain.at(link);
        switch (what) {
            case 0: return one.price;
            case 1: return one.purse;
            case 2: return one.worth;
            case 3: return one.slow;
            case 4: return one.ready;
            case 5: return one.out;
            case 6: return one.bridged;
            case 7: return one.moved;
            case 8: return texts.law.tells(READY, chain, link);
            case 9: return texts.law.tells(LEAVE, chain, link);
            case 10: return texts.law.tells(GIVE, chain, link);
            case 11: return texts.law.tells(COST, chain, link);
            case 12: return chain.canPay(link) ? 1 : 0;
            case 13: return chain.lacks(link);
            default: return NOT_TOLD;
        }
    }

    /** Of a LINK what 0 from, 1 to of its PHONES, 2 how many RECORDS. */
    public int phone(int link, int what) {
        if (!chain.has(link)) {
            return NONE;
        }
        switch (what) {
            case 0: return texts.phoneFrom(link);
            case 1: return texts.phoneTo(link);
            case 2: return texts.recordsOf(link);
            default: return NONE;
        }
    }

    /** Of line i of THE BOOK what 0 DAY, 1 what, 2 the LINK, 3 how many. */
    public int book(int i, int what) {
        if (!within(i, 0, chain.written - 1) || !within(what, 0, BOOK_ROW - 1)) {
            return NONE;
        }
        int at = i * BOOK_ROW + what;
        return at < pages.length ? pages[at] : NONE;
    }

    /** GOES what 0 how many, 1 the DAY, 2 FALLS. */
    public int goes(int n, int what) {
        if (!within(n, 1, 99) || !within(what, 0, 2)) {
            return NONE - 1;
        }
        thought.take(chain);
        for (int i = 0; i < n; i++) {
            deeds.oneDay(thought);
        }
        switch (what) {
            case 0: return Integer.bitCount(thought.movedOnes());
            case 1: return thought.latestMove();
            default: return thought.falls;
        }
    }

    /** ODDS of d DAYS. */
    public int odds(int d) {
        if (!within(d, 1, MOST_DAYS)) {
            return NONE;
        }
        likely.reckon(chain, d);
        return likely.oddsOf(chain, 0, chain.count - 1);
    }

    /** HOLDS what 0 the LINK, 1 how likely it is ready. */
    public int holds(int d, int what) {
        if (!within(d, 1, MOST_DAYS) || !within(what, 0, 1)) {
            return NONE;
        }
        likely.reckon(chain, d);
        int holder = likely.holder(chain);
        return holder == NONE || what == 0 ? holder : likely.chanceOf(holder);
    }

    /** MANY: how many LINKS at most are ready in d DAYS with a half at least. */
    public int many(int p, int d) {
        if (!within(p, 0, 1000) || !within(d, 1, MOST_DAYS)) {
            return NONE;
        }
        int each = Likely.chance(p, d);
        int all = MILLION;
        for (int i = 0; i < MOST_MANY; i++) {
            all = Likely.times(all, each);
            if (all < MILLION / 2) {
                return i;
            }
        }
        return MOST_MANY;
    }

    /** BRIDGES what 0 the sum, 1 the set. */
    public int bridges(int d, int h, int what) {
        if (!within(d, 1, MOST_DAYS) || !within(h, 0, MILLION) || !within(what, 0, 1)) {
            return NONE;
        }
        likely.reckon(chain, d);
        int best = likely.cheapestBridges(chain, h);
        return best == NONE || what == 1 ? best : d * likely.costOf(chain, best);
    }

    /** SHARES of n: what a LINK gives. */
    public int share(int n, int link) {
        if (!within(n, 0, 9999) || !chain.has(link) || chain.givenTo(WORTH_BOUND) < n) {
            return NONE;
        }
        int level = highestLevel(n);
        int left = n - chain.givenTo(level);
        for (int i = 0; i < link; i++) {
            if (chain.canGive(i) > level) {
                left--;
            }
        }
        int most = chain.canGive(link);
        return most > level && left > 0 ? level + 1 : Math.min(level, most);
    }

    /** The highest level at which all together give n at most. */
    private int highestLevel(int n) {
        int low = 0;
        int high = WORTH_BOUND;
        for (int step = 0; step < WORTH_BOUND && low < high; step++) {
            int middle = (low + high + 1) / 2;
            if (chain.givenTo(middle) <= n) {
                low = middle;
            } else {
                high = middle - 1;
            }
        }
        return low;
    }

    /** ALONG what 0 what nobody gives, 1 how many give some. */
    public int along(int link, int n, int what) {
        if (!chain.has(link) || !within(n, 0, 999) || !within(what, 0, 1)) {
            return NONE;
        }
        int left = n;
        int givers = 0;
        for (int i = link; i < chain.count; i++) {
            if (chain.at(i).isIn()) {
                int gift = Math.min(left, texts.law.tells(GIVE, chain, i));
                left -= gift;
                givers += gift > 0 ? 1 : 0;
            }
        }
        return what == 0 ? left : givers;
    }

    /** CHOICE what 0 which, 1 how much. */
    public int choice(int link, int n, int p, int what) {
        if (!chain.has(link) || !within(n, 0, 999) || !within(p, 0, 1000) || !within(what, 0, 1)) {
            return NOT_TOLD;
        }
        int worth = chain.at(link).worth;
        int best = worth - n;
        int which = 0;
        int passed = Math.floorDiv(p * worth + (1000 - p) * Math.max(worth - n, 0), 1000) - texts.law.tells(COST, chain, link);
        if (passed > best) {
            best = passed;
            which = 1;
        }
        if (best < 0) {
            best = 0;
            which = 2;
        }
        return what == 0 ? which : best;
    }

    /** BLUFF: of a million, that who threatens bluffs. */
    public int bluff(int p, int a, int b) {
        if (!within(p, 0, 1000) || !within(a, 0, 1000) || !within(b, 0, 1000)) {
            return NONE;
        }
        int bluffing = p * a;
        int threatening = bluffing + (1000 - p) * b;
        return threatening > 0 ? (int) ((long) bluffing * MILLION / threatening) : NONE;
    }

    /** SIGNS what 0 the minute, 1 how many at most, 10 + i the i-th LINK that signs. */
    public int signs(int what) {
        telephone.plan(chain.count, texts);
        if (what == 1) {
            return telephone.most;
        }
        if (what == 0) {
            return telephone.earliest;
        }
        return within(what, 10, 9 + MOST_LINKS) ? telephone.signer(what - 10) : NONE;
    }

    /** MONEY from minute t: which LINK is the last to have it by minute m. */
    public int money(int t, int m) {
        if (!within(t, 0, 600) || !within(m, 0, 600)) {
            return NONE;
        }
        int last = NONE;
        int minute = t;
        for (int i = 0; i < chain.count; i++) {
            minute += 10 + chain.at(i).slow;
            if (minute <= m) {
                last = i;
            }
        }
        return last;
    }

    /** ILL from DAY a for k DAYS, as a set. */
    public int ill(int a, int k) {
        if (!within(a, 0, 999) || !within(k, 1, 30)) {
            return NONE;
        }
        return chain.all() & ~texts.writers(a, a + k - 1);
    }

    /** WROTE: the DAY that parts those who wrote by then and those who didn't most evenly. */
    public int wrote() {
        if (chain.count < 2) {
            return NONE;
        }
        int best = NONE;
        int least = MOST_LINKS + 1;
        int writers = 0;
        for (int day = 0; day <= 99; day++) {
            writers |= texts.writers(day, day);
            int with = Integer.bitCount(writers & chain.all());
            int greater = Math.max(with, chain.count - with);
            if (greater < least) {
                least = greater;
                best = day;
            }
        }
        return best;
    }

    /** SLOWEST of those not MOVED. */
    public int slowest() {
        int best = NONE;
        int least = 0;
        for (int i = 0; i < chain.count; i++) {
            if (chain.at(i).moved == NONE) {
                int ready = texts.law.tells(READY, chain, i);
                if (best == NONE || ready < least) {
                    best = i;
                    least = ready;
                }
            }
        }
        return best;
    }

    /** GAME what 0 the LINK, 1 how many. */
    public int game(int what) {
        if (!within(what, 0, 1)) {
            return NONE;
        }
        // who takes 1, 2 or 3 of a heap plays as on what is left of it by 4
        int whole = 0;
        for (int i = 0; i < chain.count; i++) {
            whole ^= heap(i) & 3;
        }
        for (int i = 0; i < chain.count; i++) {
            for (int n = 1; n <= Math.min(3, heap(i)); n++) {
                if ((whole ^ (heap(i) & 3) ^ (heap(i) - n & 3)) == 0) {
                    return what == 0 ? i : n;
                }
            }
        }
        return NONE;
    }

    private int heap(int link) {
        Link one = chain.at(link);
        return one.moved == NONE ? one.slow : 0;
    }

    /** SOON of h: the fewest DAYS by which ODDS are h at least. */
    public int soon(int h) {
        if (!within(h, 0, MILLION)) {
            return NONE;
        }
        likely.reckon(chain, 0);
        for (int d = 1; d <= MOST_DAYS; d++) {
            likely.oneDayMore(chain);
            if (likely.oddsOf(chain, 0, chain.count - 1) >= h) {
                return d;
            }
        }
        return NONE;
    }

    /** HURRY what 0 the LINK, 1 the ODDS. */
    public int hurry(int d, int what) {
        if (!within(d, 1, MOST_DAYS) || !within(what, 0, 1)) {
            return NONE;
        }
        int best = NONE;
        int greatest = NONE;
        likely.reckon(chain, d);
        for (int i = 0; i < chain.count; i++) {
            int odds = likely.oddsHurried(chain, i, d);
            if (odds > greatest) {
                greatest = odds;
                best = i;
            }
        }
        return what == 0 ? best : greatest;
    }

    /** SPLIT what 0 the LINK, 1 the least ODDS. */
    public int split(int d, int what) {
        if (!within(d, 1, MOST_DAYS) || !within(what, 0, 1)) {
            return NONE;
        }
        int best = NONE;
        int greatest = NONE;
        int bridged = chain.bridgedOnes();
        likely.reckon(chain, d);
        likely.reckonSpans(chain);
        for (int i = 0; i < chain.count; i++) {
            if (chain.canBridge(i)) {
                int least = likely.leastOdds(chain, bridged | 1 << i);
                if (least > greatest) {
                    greatest = least;
                    best = i;
                }
            }
        }
        return what == 0 ? best : greatest;
    }

    /** GAP of a LINK. */
    public int gap(int link) {
        return chain.has(link) ? chain.lackOfMoney(link) : NONE;
    }

    /** RUNS what 0 how long, 1 its first LINK, 2 POOREST. */
    public int runs(int what) {
        int longest = 0;
        int first = NONE;
        int poorest = NONE;
        int length = 0;
        for (int i = 0; i < chain.count; i++) {
            Link one = chain.at(i);
            boolean fine = one.isIn() && chain.canPay(i);
            length = fine ? length + 1 : 0;
            if (length > longest) {
                longest = length;
                first = i - length + 1;
            }
            if (fine && (poorest == NONE || one.purse < chain.at(poorest).purse)) {
                poorest = i;
            }
        }
        switch (what) {
            case 0: return longest;
            case 1: return first;
            case 2: return poorest;
            default: return NONE;
        }
    }

    /** UNDO. */
    public boolean undo() {
        return kept.goBack(chain);
    }

    /** THE IMAGE is taken (true), or gone back to (false). */
    public boolean image(boolean taken) {
        if (taken) {
            takenChain.take(chain);
            takenTexts.take(texts);
            System.arraycopy(pages, 0, takenPages, 0, pages.length);
            hasImage = true;
            return true;
        }
        if (!hasImage) {
            return false;
        }
        chain.take(takenChain);
        texts.take(takenTexts);
        System.arraycopy(takenPages, 0, pages, 0, pages.length);
        kept.forgetAll();
        telephone.forgetAll();
        return true;
    }

    /** What there is to tell of all. */
    public int look(int what) {
        switch (what) {
            case 0: return chain.count;
            case 1: return chain.day;
            case 2: return chain.falls;
            case 3: return chain.movedOnes();
            case 4: return chain.bridgedOnes();
            case 5: return chain.parts();
            case 6: return chain.written;
            case 7: return chain.state;
            case 8: return texts.law.lines;
            case 9: return texts.plan.count;
            case 10: return texts.phones.count;
            case 11: return texts.records.count;
            case 12: return kept.count;
            default: return NONE;
        }
    }

    /** One of the chain: it buys the house of the one above and sells its own to the one below. */
    private static final class Link {
        int price;
        int purse;
        int worth;
        int slow;
        int ready;
        int out;
        int bridged;
        int moved = NONE;

        void makeNew(int price, int purse, int worth, int slow) {
            this.price = price;
            this.purse = purse;
            this.worth = worth;
            this.slow = slow;
            ready = 0;
            out = 0;
            bridged = 0;
            moved = NONE;
        }

        void take(Link other) {
            price = other.price;
            purse = other.purse;
            worth = other.worth;
            slow = other.slow;
            ready = other.ready;
            out = other.out;
            bridged = other.bridged;
            moved = other.moved;
        }

        /** Neither OUT nor MOVED. */
        boolean isIn() {
            return out == 0 && moved == NONE;
        }
    }

    /** All that a DAY or a deed changes, so that it can be kept and gone back to as one. */
    private static final class Chain {
        /** In thought there are no DRAWS, and nothing is written into THE BOOK. */
        final boolean thought;
        final Link[] links = new Link[MOST_LINKS];
        /** Stands for every LINK that there is not. */
        final Link nobody = new Link();
        int count;
        int day;
        int falls;
        int state;
        /** How many lines of THE BOOK are written: going back needs this number alone. */
        int written;

        Chain(boolean thought) {
            this.thought = thought;
            for (int i = 0; i < MOST_LINKS; i++) {
                links[i] = new Link();
            }
        }

        void take(Chain other) {
            for (int i = 0; i < MOST_LINKS; i++) {
                links[i].take(other.links[i]);
            }
            count = other.count;
            day = other.day;
            falls = other.falls;
            state = other.state;
            written = other.written;
        }

        boolean has(int i) {
            return i >= 0 && i < count;
        }

        Link at(int i) {
            return i >= 0 && i < MOST_LINKS ? links[i] : nobody;
        }

        int all() {
            return (1 << count) - 1;
        }

        /** Whether what is so likely of a thousand happens. */
        boolean happens(int chance) {
            if (thought) {
                return chance >= 500;
            }
            state = state * 1664525 + 1013904223;
            return (state >>> 8) % 1000 < chance;
        }

        /** How much a LINK lacks to PAY. */
        int lackOfMoney(int i) {
            if (i >= count - 1) {
                return 0;
            }
            int own = at(i).purse + (i > 0 ? at(i).price : 0);
            return Math.max(0, at(i + 1).price - own);
        }

        boolean canPay(int i) {
            return lackOfMoney(i) == 0;
        }

        boolean canBridge(int i) {
            return i > 0 && i < count - 1 && at(i).bridged == 0 && at(i).isIn();
        }

        /** The next BRIDGED one above a LINK, or the last one. */
        int partEnd(int i) {
            int end = i;
            while (end < count - 1) {
                end++;
                if (at(end).bridged != 0) {
                    break;
                }
            }
            return end;
        }

        /** How many from the next BRIDGED one below to the next one above: for a BRIDGED one these are both PARTS. */
        int lacks(int i) {
            if (i < 0 || i >= count || i >= MOST_LINKS) {
                return 0;
            }
            int lacking = 1 - links[i].ready;
            for (int k = i - 1; k >= 0; k--) {
                lacking += 1 - links[k].ready;
                if (links[k].bridged != 0) {
                    break;
                }
            }
            for (int k = i + 1; k < count && k < MOST_LINKS; k++) {
                lacking += 1 - links[k].ready;
                if (links[k].bridged != 0) {
                    break;
                }
            }
            return lacking;
        }

        int parts() {
            return count == 0 ? 0 : 1 + Integer.bitCount(bridgedOnes());
        }

        int movedOnes() {
            int ones = 0;
            for (int i = 0; i < count; i++) {
                ones |= at(i).moved != NONE ? 1 << i : 0;
            }
            return ones;
        }

        int bridgedOnes() {
            int ones = 0;
            for (int i = 0; i < count; i++) {
                ones |= at(i).bridged != 0 ? 1 << i : 0;
            }
            return ones;
        }

        int bridgeableOnes() {
            int ones = 0;
            for (int i = 0; i < count; i++) {
                ones |= canBridge(i) ? 1 << i : 0;
            }
            return ones;
        }

        /** The DAY on which the latest MOVED, if all are. */
        int latestMove() {
            int latest = NONE;
            for (int i = 0; i < count; i++) {
                if (at(i).moved == NONE) {
                    return NONE;
                }
                latest = Math.max(latest, at(i).moved);
            }
            return latest;
        }

        /** The most that a LINK may give in SHARES. */
        int canGive(int i) {
            return at(i).isIn() ? Math.max(0, at(i).worth) : 0;
        }

        /** What all give together, if none gives more than the level. */
        int givenTo(int level) {
            int sum = 0;
            for (int i = 0; i < count; i++) {
                sum += Math.min(level, canGive(i));
            }
            return sum;
        }

        /** What a name of THE LAW stands for. */
        int named(int word, int i) {
            switch (word) {
                case LINK: return i;
                case PRICE: return at(i).price;
                case PURSE: return at(i).purse;
                case WORTH: return at(i).worth;
                case SLOW: return at(i).slow;
                case DAY: return day;
                case LINKS: return count;
                case BRIDGED: return at(i).bridged;
                case LACKS: return lacks(i);
                default: return 0;
            }
        }
    }

    /** The latest deeds that can be undone: what was before each, the oldest overwritten first. */
    private static final class Kept {
        final Chain[] before = new Chain[MOST_KEPT];
        int next;
        int count;

        Kept() {
            for (int i = 0; i < MOST_KEPT; i++) {
                before[i] = new Chain(false);
            }
        }

        void forgetAll() {
            count = 0;
        }

        void keep(Chain chain) {
            before[next].take(chain);
            next = (next + 1) % MOST_KEPT;
            count = Math.min(count + 1, MOST_KEPT);
        }

        boolean goBack(Chain chain) {
            if (count == 0) {
                return false;
            }
            count--;
            next = (next + MOST_KEPT - 1) % MOST_KEPT;
            chain.take(before[next]);
            return true;
        }
    }

    /**
     * THE LAW as lines of a code in which what is joined stands ahead of what joins it:
     * a number is itself, all else the complement of its token.
     */
    private static final class Law {
        int lines;
        int size;
        final int[] words = new int[MOST_LINES];
        /** Where a line's E begins, where its B begins (its end, if it has none), where it ends. */
        final int[] starts = new int[MOST_LINES];
        final int[] middles = new int[MOST_LINES];
        final int[] ends = new int[MOST_LINES];
        final int[] code = new int[MOST_BYTES];
        final int[] stack = new int[64];

        void clear() {
            lines = 0;
            size = 0;
        }

        void take(Law other) {
            lines = other.lines;
            size = other.size;
            System.arraycopy(other.words, 0, words, 0, MOST_LINES);
            System.arraycopy(other.starts, 0, starts, 0, MOST_LINES);
            System.arraycopy(other.middles, 0, middles, 0, MOST_LINES);
            System.arraycopy(other.ends, 0, ends, 0, MOST_LINES);
            System.arraycopy(other.code, 0, code, 0, MOST_BYTES);
        }

        void put(int piece) {
            if (size < MOST_BYTES) {
                code[size] = piece;
                size++;
            }
        }

        void addLine(int word, int start, int middle) {
            if (lines < MOST_LINES) {
                words[lines] = word;
                starts[lines] = start;
                middles[lines] = middle;
                ends[lines] = size;
                lines++;
            }
        }

        /** What THE LAW tells of a LINK for a word. */
        int tells(int word, Chain chain, int i) {
            for (int line = 0; line < lines && line < MOST_LINES; line++) {
                boolean always = middles[line] == ends[line];
                if (words[line] == word && (always || worked(middles[line], ends[line], chain, i) != 0)) {
                    return held(word, worked(starts[line], middles[line], chain, i));
                }
            }
            return held(word, untold(word, chain.at(i)));
        }

        static int untold(int word, Link one) {
            switch (word) {
                case READY: return 300 - 30 * one.slow;
                case GIVE: return Math.floorDiv(one.worth, 4);
                case COST: return 3;
                default: return 0;
            }
        }

        static int held(int word, int value) {
            int most = word == GIVE ? 999 : word == COST ? 99 : 1000;
            return Math.max(0, Math.min(most, value));
        }

        int worked(int from, int to, Chain chain, int i) {
            int top = 0;
            for (int at = from; at < to && at >= 0 && at < size; at++) {
                int token = ~code[at];
                if (token < 0 || token >= LINK && token <= LACKS) {
                    if (top < stack.length) {
                        stack[top] = token < 0 ? code[at] : chain.named(token, i);
                        top++;
                    }
                } else if (token == NOT) {
                    if (top > 0) {
                        stack[top - 1] = 1 - stack[top - 1];
                    }
                } else if (top > 1) {
                    top--;
                    stack[top - 1] = joined(token, stack[top - 1], stack[top]);
                }
            }
            return top > 0 ? stack[top - 1] : 0;
        }

        static int joined(int token, int a, int b) {
            switch (token) {
                case '+': return a + b;
                case '-': return a - b;
                case '*': return a * b;
                case '/': return b == 0 ? 0 : a / b;
                case '<': return a < b ? 1 : 0;
                case '=': return a == b ? 1 : 0;
                case '>': return a > b ? 1 : 0;
                case AND: return a & b;
                case OR: return a | b;
                default: return 0;
            }
        }
    }

    /** The lines of one of the other TEXTS, a row of numbers each. */
    private static final class Rows {
        int count;
        final int[] cells = new int[MOST_LINES * ROW];

        void take(Rows other) {
            count = other.count;
            System.arraycopy(other.cells, 0, cells, 0, cells.length);
        }

        void add(int a, int b, int c, int d, int e) {
            if (count < MOST_LINES) {
                int at = count * ROW;
                cells[at] = a;
                cells[at + 1] = b;
                cells[at + 2] = c;
                cells[at + 3] = d;
                cells[at + 4] = e;
                count++;
            }
        }

        int cell(int row, int column) {
            return row >= 0 && row < count && column >= 0 && column < ROW ? cells[row * ROW + column] : NONE;
        }
    }

    /** The TEXTS as they are told. */
    private static final class Texts {
        final Law law = new Law();
        /** DAY, the deed's word, LINK, the other LINK, N. */
        final Rows plan = new Rows();
        /** LINK, from, to. */
        final Rows phones = new Rows();
        /** DAY, LINK. */
        final Rows records = new Rows();

        void take(Texts other) {
            law.take(other.law);
            plan.take(other.plan);
            phones.take(other.phones);
            records.take(other.records);
        }

        Rows rows(int k) {
            return k == PLAN_TEXT ? plan : k == PHONES_TEXT ? phones : records;
        }

        /** The last line of a LINK counts. */
        int phoneLine(int link) {
            for (int row = phones.count - 1; row >= 0; row--) {
                if (phones.cell(row, 0) == link) {
                    return row;
                }
            }
            return NONE;
        }

        int phoneFrom(int link) {
            int row = phoneLine(link);
            return row == NONE ? 0 : phones.cell(row, 1);
        }

        int phoneTo(int link) {
            int row = phoneLine(link);
            return row == NONE ? MORNING : phones.cell(row, 2);
        }

        int recordsOf(int link) {
            int number = 0;
            for (int row = 0; row < records.count; row++) {
                number += records.cell(row, 1) == link ? 1 : 0;
            }
            return number;
        }

        /** The LINKS with RECORDS from one DAY to another one, as a set. */
        int writers(int first, int last) {
            int ones = 0;
            for (int row = 0; row < records.count; row++) {
                int day = records.cell(row, 0);
                if (day >= first && day <= last) {
                    ones |= 1 << records.cell(row, 1);
                }
            }
            return ones;
        }
    }

    /** The TAPE, and the TOKENS that are on it. */
    private static final class Tape {
        final byte[] bytes = new byte[MOST_BYTES];
        int length;
        /** Of each token: what it is, its number, where it begins; the last one is the END. */
        final int[] tokens = new int[MOST_BYTES + 1];
        final int[] numbers = new int[MOST_BYTES + 1];
        final int[] places = new int[MOST_BYTES + 1];

        void put(int four) {
            for (int shift = 24; shift >= 0; shift -= 8) {
                if (length < MOST_BYTES) {
                    bytes[length] = (byte) (four >> shift);
                    length++;
                }
            }
        }

        void scan() {
            int count = 0;
            int behind = 0;
            for (int at = 0; at < length && at < MOST_BYTES; at++) {
                int c = bytes[at];
                if (at >= behind && c != 32 && c != 10) {
                    places[count] = at;
                    behind = isLetter(c) ? takeWord(count, at) : isDigit(c) ? takeNumber(count, at) : takeSign(count, at);
                    count++;
                }
            }
            tokens[count] = END;
            places[count] = length;
        }

        static boolean isLetter(int c) {
            return c >= 'a' && c <= 'z' || c >= 'A' && c <= 'Z';
        }

        static boolean isDigit(int c) {
            return c >= '0' && c <= '9';
        }

        static boolean isSign(int c) {
            return c >= '(' && c <= '+' || c == '-' || c == '/' || c >= ';' && c <= '>';
        }

        /** This and the next two: where the token ends. */
        int takeWord(int index, int from) {
            int to = from + 1;
            while (to < length && to < MOST_BYTES && isLetter(bytes[to])) {
                to++;
            }
            tokens[index] = wordOf(from, to);
            return to;
        }

        int takeNumber(int index, int from) {
            int number = 0;
            int to = from;
            while (to < length && to < MOST_BYTES && isDigit(bytes[to])) {
                number = number * 10 + bytes[to] - '0';
                to++;
            }
            tokens[index] = to - from <= 4 ? NUMBER : WRONG;
            numbers[index] = number;
            return to;
        }

        int takeSign(int index, int from) {
            tokens[index] = isSign(bytes[from]) ? bytes[from] : WRONG;
            return from + 1;
        }

        /** The number of the keyword that these bytes are. */
        int wordOf(int from, int to) {
            int word = 0;
            int seen = from;
            boolean same = true;
            for (int i = 0; i < WORDS.length(); i++) {
                char c = WORDS.charAt(i);
                if (c == ' ') {
                    if (same && seen == to) {
                        return word;
                    }
                    word++;
                    seen = from;
                    same = true;
                } else {
                    same = same && seen < to && bytes[seen] == c;
                    seen++;
                }
            }
            return WRONG;
        }
    }

    /** Tells a TEXT from the TAPE, or finds its FAULT; the TEXT is changed only when all of it is good. */
    private static final class Teller {
        final Tape tape;
        final Law law = new Law();
        final Rows rows = new Rows();
        int fault;
        int place = NONE;
        /** The token that is looked at, and its number. */
        int at;
        int token;
        int number;
        /** How many LINKS there are. */
        int links;
        /** How many ( and not are open. */
        int open;

        Teller(Tape tape) {
            this.tape = tape;
        }

        int tell(int k, Texts texts, int links) {
            fault = 0;
            place = NONE;
            open = 0;
            this.links = links;
            tape.scan();
            tape.length = 0;
            lookAt(0);
            if (k == LAW_TEXT && lawLines()) {
                texts.law.take(law);
                return law.lines;
            }
            if (k >= PLAN_TEXT && k <= RECORDS_TEXT && rowLines(k)) {
                texts.rows(k).take(rows);
                return rows.count;
            }
            return NONE;
        }

        void lookAt(int index) {
            if (index >= 0 && index <= MOST_BYTES) {
                at = index;
                token = tape.tokens[index];
                number = tape.numbers[index];
            }
        }

        boolean wrong(int fault) {
            this.fault = fault;
            place = at >= 0 && at <= MOST_BYTES ? tape.places[at] : NONE;
            return false;
        }

        boolean accept(int wanted) {
            if (token != wanted) {
                return wrong(1);
            }
            lookAt(at + 1);
            return true;
        }

        /** A NUMBER within these bounds; NONE with a FAULT. */
        int numeral(int least, int most) {
            if (token != NUMBER || number < least || number > most) {
                wrong(token == NUMBER ? 2 : 1);
                return NONE;
            }
            int found = number;
            lookAt(at + 1);
            return found;
        }

        boolean lawLines() {
            law.clear();
            for (int line = 0; line <= MOST_LINES && token != END; line++) {
                int word = token;
                if (word < READY || word > COST) {
                    return wrong(1);
                }
                if (line == MOST_LINES) {
                    return wrong(3);
                }
                lookAt(at + 1);
                int start = law.size;
                if (!sum()) {
                    return false;
                }
                int middle = law.size;
                if (token == WHEN) {
                    lookAt(at + 1);
                    if (!conditions()) {
                        return false;
                    }
                }
                law.addLine(word, start, middle);
                if (!accept(';')) {
                    return false;
                }
            }
            return true;
        }

        /** B: conditions joined by and, these joined by or; calls itself MOST_OPEN deep at most. */
        private boolean conditions() {
            boolean someBefore = false;
            boolean oneBefore = false;
            for (int i = 0; i < MOST_BYTES; i++) {
                if (!condition()) {
                    return false;
                }
                if (oneBefore) {
                    law.put(~AND);
                }
                oneBefore = token == AND;
                if (!oneBefore) {
                    if (someBefore) {
                        law.put(~OR);
                    }
                    if (token != OR) {
                        return true;
                    }
                    someBefore = true;
                }
                lookAt(at + 1);
            }
            return false;
        }

        private boolean condition() {
            int first = token;
            if (first == NOT || first == '(') {
                if (open >= MOST_OPEN) {
                    return wrong(3);
                }
                open++;
                lookAt(at + 1);
                boolean good = first == NOT ? condition() : conditions() && accept(')');
                open--;
                if (good && first == NOT) {
                    law.put(~NOT);
                }
                return good;
            }
            if (!sum()) {
                return false;
            }
            int sign = token;
            if (sign != '<' && sign != '=' && sign != '>') {
                return wrong(1);
            }
            lookAt(at + 1);
            boolean good = sum();
            law.put(~sign);
            return good;
        }

        /** E: what is multiplied or divided comes ahead of the + or - that waits for it. */
        boolean sum() {
            int waiting = 0;
            for (int i = 0; i < MOST_BYTES; i++) {
                if (!unit()) {
                    return false;
                }
                for (int k = 0; k < MOST_BYTES && (token == '*' || token == '/'); k++) {
                    int sign = token;
                    lookAt(at + 1);
                    if (sign == '/' && (token != NUMBER || number == 0)) {
                        return wrong(token == NUMBER ? 2 : 1);
                    }
                    if (!unit()) {
                        return false;
                    }
                    law.put(~sign);
                }
                if (waiting != 0) {
                    law.put(~waiting);
                }
                if (token != '+' && token != '-') {
                    return true;
                }
                waiting = token;
                lookAt(at + 1);
            }
            return false;
        }

        boolean unit() {
            if (token == NUMBER) {
                law.put(number);
            } else if (token >= LINK && token <= LACKS) {
                law.put(~token);
            } else {
                return wrong(1);
            }
            lookAt(at + 1);
            return true;
        }

        boolean rowLines(int k) {
            int first = k == PLAN_TEXT ? ON : k == PHONES_TEXT ? LINK : DAY;
            rows.count = 0;
            for (int line = 0; line <= MOST_LINES && token != END; line++) {
                if (token != first) {
                    return wrong(1);
                }
                if (line == MOST_LINES) {
                    return wrong(3);
                }
                lookAt(at + 1);
                boolean good = k == PLAN_TEXT ? planLine() : k == PHONES_TEXT ? phoneLine() : recordLine();
                if (!good || !accept(';')) {
                    return false;
                }
            }
            return true;
        }

        boolean planLine() {
            int day = numeral(0, 999);
            if (day == NONE) {
                return false;
            }
            int deed = token;
            if (deed < ASK || deed > PAPER) {
                return wrong(1);
            }
            lookAt(at + 1);
            int link = numeral(0, links - 1);
            if (link == NONE) {
                return false;
            }
            int other = deed == PAY ? otherLink(link) : 0;
            if (other == NONE) {
                return false;
            }
            int n = deed == ASK || deed == PAY ? numeral(1, 99) : 0;
            rows.add(day, deed, link, other, n);
            return n != NONE;
        }

        int otherLink(int link) {
            if (token == NUMBER && number == link) {
                wrong(2);
                return NONE;
            }
            return numeral(0, links - 1);
        }

        boolean phoneLine() {
            int link = numeral(0, links - 1);
            if (link == NONE || !accept(FROM)) {
                return false;
            }
            int from = numeral(0, MORNING);
            if (from == NONE || !accept(TO)) {
                return false;
            }
            int to = numeral(from + 1, MORNING);
            rows.add(link, from, to, 0, 0);
            return to != NONE;
        }

        boolean recordLine() {
            int day = numeral(0, 999);
            if (day == NONE || !accept(LINK)) {
                return false;
            }
            int link = numeral(0, links - 1);
            rows.add(day, link, 0, 0, 0);
            return link != NONE;
        }
    }

    /** What is done to a chain, by a call or on a DAY. */
    private static final class Deeds {
        final Texts texts;
        final int[] pages;

        Deeds(Texts texts, int[] pages) {
            this.texts = texts;
            this.pages = pages;
        }

        /** THE BOOK has no more than its lines, and no thoughts in it. */
        void write(Chain chain, int what, int link, int n) {
            int at = chain.written * BOOK_ROW;
            if (chain.thought || at < 0 || at + BOOK_ROW > pages.length) {
                return;
            }
            pages[at] = chain.day;
            pages[at + 1] = what;
            pages[at + 2] = link;
            pages[at + 3] = n;
            chain.written++;
        }

        boolean canAsk(Chain chain, int i, int n) {
            return i >= 0 && i < chain.count - 1 && within(n, 1, 99) && chain.at(i + 1).isIn();
        }

        int askFor(Chain chain, int i, int n) {
            Link giver = chain.at(i + 1);
            int gift = Math.min(Math.min(n, giver.price - 1), texts.law.tells(GIVE, chain, i + 1));
            giver.price -= gift;
            giver.worth = Math.max(-WORTH_BOUND, giver.worth - gift);
            write(chain, ASKED, i + 1, gift);
            return gift;
        }

        void putBridge(Chain chain, int i) {
            chain.at(i).bridged = 1;
            write(chain, NOW_BRIDGED, i, 0);
        }

        boolean canHandOver(Chain chain, int a, int b, int n) {
            return chain.has(a) && chain.has(b) && a != b && within(n, 1, 99)
                && chain.at(a).purse - n >= -PURSE_BOUND && chain.at(b).purse + n <= PURSE_BOUND;
        }

        void handOver(Chain chain, int a, int b, int n) {
            chain.at(a).purse -= n;
            chain.at(b).purse += n;
            write(chain, PAID, a, n);
        }

        boolean canGetReady(Chain chain, int i) {
            return chain.has(i) && chain.at(i).ready == 0 && chain.at(i).isIn();
        }

        void getReady(Chain chain, int i) {
            chain.at(i).ready = 1;
            write(chain, NOW_READY, i, 0);
        }

        void comeIn(Chain chain, int i) {
            chain.at(i).out = 0;
            chain.at(i).ready = 0;
            write(chain, JOINED, i, 0);
        }

        /** A DAY: how many MOVED. */
        int oneDay(Chain chain) {
            for (int line = 0; line < texts.plan.count; line++) {
                if (texts.plan.cell(line, 0) == chain.day) {
                    doPlanned(chain, line);
                }
            }
            for (int i = 0; i < chain.count; i++) {
                if (canGetReady(chain, i) && chain.happens(texts.law.tells(READY, chain, i))) {
                    getReady(chain, i);
                }
            }
            for (int i = 0; i < chain.count; i++) {
                if (chain.at(i).isIn()) {
                    mayLeave(chain, i);
                }
            }
            int moved = moveParts(chain);
            payForBridges(chain);
            chain.day++;
            return moved;
        }

        void doPlanned(Chain chain, int line) {
            int link = texts.plan.cell(line, 2);
            int other = texts.plan.cell(line, 3);
            int n = texts.plan.cell(line, 4);
            switch (texts.plan.cell(line, 1)) {
                case ASK:
                    if (canAsk(chain, link, n)) {
                        askFor(chain, link, n);
                    }
                    break;
                case BRIDGE:
                    if (chain.canBridge(link)) {
                        putBridge(chain, link);
                    }
                    break;
                case PAY:
                    if (canHandOver(chain, link, other, n)) {
                        handOver(chain, link, other, n);
                    }
                    break;
                default:
                    if (canGetReady(chain, link)) {
                        getReady(chain, link);
                    }
                    break;
            }
        }

        void mayLeave(Chain chain, int i) {
            int leave = texts.law.tells(LEAVE, chain, i);
            if (leave == 0 || !chain.happens(leave)) {
                return;
            }
            chain.at(i).out = 1;
            chain.falls++;
            write(chain, NOW_OUT, i, 0);
            for (int k = i - 1; k <= i + 1; k++) {
                if (chain.at(k).moved == NONE) {
                    chain.at(k).ready = 0;
                }
            }
        }

        int moveParts(Chain chain) {
            int moved = 0;
            int from = 0;
            for (int part = chain.parts(); part > 0; part--) {
                int to = chain.partEnd(from);
                if (canMove(chain, from, to)) {
                    moved += movePart(chain, from, to);
                }
                from = to;
            }
            return moved;
        }

        static boolean canMove(Chain chain, int from, int to) {
            for (int i = from; i <= to; i++) {
                Link one = chain.at(i);
                if (one.ready == 0 || one.out != 0 || i < to && !chain.canPay(i)) {
                    return false;
                }
            }
            return true;
        }

        /** A BRIDGED one that ends the PART moves with the PART that it begins. */
        int movePart(Chain chain, int from, int to) {
            int moved = 0;
            for (int i = from; i <= to; i++) {
                Link one = chain.at(i);
                if (one.moved == NONE && (i < to || one.bridged == 0)) {
                    one.moved = chain.day;
                    write(chain, NOW_MOVED, i, 0);
                    moved++;
                }
            }
            return moved;
        }

        void payForBridges(Chain chain) {
            for (int i = 0; i < chain.count; i++) {
                Link one = chain.at(i);
                if (one.bridged != 0 && one.isIn()) {
                    one.purse = Math.max(-PURSE_BOUND, one.purse - texts.law.tells(COST, chain, i));
                }
            }
        }
    }

    /** How likely all are READY in some DAYS, of a million, with ready as now. */
    private static final class Likely {
        final Law law;
        /** Of each LINK: what of a million is left not READY, and ready now. */
        final int[] left = new int[MOST_LINKS];
        final int[] ready = new int[MOST_LINKS];
        final int[] costs = new int[MOST_LINKS];
        /** ODDS from one LINK to another one. */
        final int[] spans = new int[MOST_LINKS * MOST_LINKS];

        Likely(Law law) {
            this.law = law;
        }

        static int leftNext(int left, int ready) {
            return left * (1000 - ready) / 1000;
        }

        static int leftAfter(int ready, int d) {
            int left = MILLION;
            for (int i = 0; i < d; i++) {
                left = leftNext(left, ready);
            }
            return left;
        }

        static int chance(int ready, int d) {
            return MILLION - leftAfter(ready, d);
        }

        static int times(int a, int b) {
            return (int) ((long) a * b / MILLION);
        }

        /** All else here asks for this first. */
        void reckon(Chain chain, int d) {
            for (int i = 0; i < chain.count && i < MOST_LINKS; i++) {
                ready[i] = law.tells(READY, chain, i);
                costs[i] = law.tells(COST, chain, i);
                left[i] = leftAfter(ready[i], d);
            }
        }

        void oneDayMore(Chain chain) {
            for (int i = 0; i < chain.count && i < MOST_LINKS; i++) {
                left[i] = leftNext(left[i], ready[i]);
            }
        }

        int chanceOf(int i) {
            return i >= 0 && i < MOST_LINKS ? MILLION - left[i] : 0;
        }

        int oddsWith(Chain chain, int odds, int i) {
            Link one = chain.at(i);
            if (one.out != 0) {
                return 0;
            }
            return one.ready != 0 ? odds : times(odds, chanceOf(i));
        }

        int oddsOf(Chain chain, int from, int to) {
            int odds = MILLION;
            for (int i = from; i <= to; i++) {
                odds = oddsWith(chain, odds, i);
            }
            return odds;
        }

        int holder(Chain chain) {
            int holder = NONE;
            for (int i = 0; i < chain.count; i++) {
                if (chain.at(i).ready == 0 && (holder == NONE || chanceOf(i) < chanceOf(holder))) {
                    holder = i;
                }
            }
            return holder;
        }

        int oddsHurried(Chain chain, int i, int d) {
            Link one = chain.at(i);
            if (i < 0 || i >= MOST_LINKS) {
                return 0;
            }
            int slow = one.slow;
            int leftNow = left[i];
            one.slow = 0;
            left[i] = leftAfter(law.tells(READY, chain, i), d);
            int odds = oddsOf(chain, 0, chain.count - 1);
            one.slow = slow;
            left[i] = leftNow;
            return odds;
        }

        /** leastOdds() asks for this first. */
        void reckonSpans(Chain chain) {
            for (int from = 0; from < chain.count; from++) {
                int odds = MILLION;
                for (int to = from; to < chain.count; to++) {
                    odds = oddsWith(chain, odds, to);
                    int at = from * MOST_LINKS + to;
                    if (at < spans.length) {
                        spans[at] = odds;
                    }
                }
            }
        }

        /** The least ODDS of all PARTS, if these LINKS were BRIDGED. */
        int leastOdds(Chain chain, int bridged) {
            int least = MILLION;
            int from = 0;
            for (int i = 0; i < chain.count; i++) {
                int at = from * MOST_LINKS + i;
                boolean ends = i == chain.count - 1 || (bridged >> i & 1) != 0;
                if (ends && at < spans.length) {
                    least = Math.min(least, spans[at]);
                    from = i;
                }
            }
            return least;
        }

        /** The set to bridge so that all PARTS' ODDS are h at least; NONE if by none. */
        int cheapestBridges(Chain chain, int h) {
            int can = chain.bridgeableOnes();
            int already = chain.bridgedOnes();
            int best = NONE;
            int leastCost = 0;
            reckonSpans(chain);
            int ones = 0;
            for (int i = 1 << Integer.bitCount(can); i > 0; i--) {
                if (leastOdds(chain, already | ones) >= h) {
                    int cost = costOf(chain, ones);
                    boolean fewer = Integer.bitCount(ones) < Integer.bitCount(best);
                    if (best == NONE || cost < leastCost || cost == leastCost && fewer) {
                        best = ones;
                        leastCost = cost;
                    }
                }
                // the next greater set within those that can be
                ones = ones - can & can;
            }
            return best;
        }

        int costOf(Chain chain, int ones) {
            int sum = 0;
            for (int i = 0; i < chain.count && i < MOST_LINKS; i++) {
                sum += (ones >> i & 1) != 0 ? costs[i] : 0;
            }
            return sum;
        }
    }

    /** All LINKS sign by one telephone: found once, and anew when LINKS or PHONES have changed. */
    private static final class Telephone {
        boolean known;
        /** The minute at which all have signed, NONE if not all can; how many can at most. */
        int earliest;
        int most;
        int count;
        final int[] from = new int[MOST_LINKS];
        final int[] to = new int[MOST_LINKS];
        final int[] order = new int[MOST_LINKS];
        /** For each set of LINKS a minute, NONE if they can't sign. */
        final int[] minutes = new int[1 << MOST_LINKS];

        void forgetAll() {
            known = false;
        }

        void plan(int links, Texts texts) {
            if (known) {
                return;
            }
            known = true;
            count = Math.min(links, MOST_LINKS);
            for (int i = 0; i < count; i++) {
                from[i] = texts.phoneFrom(i);
                to[i] = texts.phoneTo(i);
            }
            findEarliest();
            if (earliest != NONE) {
                findLatest();
                findOrder();
            }
        }

        int signer(int i) {
            return earliest != NONE && i >= 0 && i < count ? order[i] : NONE;
        }

        /** For each set the earliest minute at which it has signed. */
        void findEarliest() {
            most = 0;
            minutes[0] = 0;
            for (int set = 1; set < 1 << count; set++) {
                int best = NONE;
                for (int i = 0; i < count; i++) {
                    int before = (set >> i & 1) != 0 ? minutes[set ^ 1 << i] : NONE;
                    int done = Math.max(before, from[i]) + SIGNING;
                    if (before != NONE && done <= to[i] && (best == NONE || done < best)) {
                        best = done;
                    }
                }
                minutes[set] = best;
                if (best != NONE) {
                    most = Math.max(most, Integer.bitCount(set));
                }
            }
            earliest = minutes[(1 << count) - 1];
        }

        /** For each set the latest minute at which it may begin to sign, so that all have by the earliest one. */
        void findLatest() {
            minutes[0] = earliest;
            for (int set = 1; set < 1 << count; set++) {
                int best = NONE;
                for (int i = 0; i < count; i++) {
                    int behind = (set >> i & 1) != 0 ? minutes[set ^ 1 << i] : NONE;
                    int begun = Math.min(behind, to[i]) - SIGNING;
                    if (behind != NONE && begun >= from[i]) {
                        best = Math.max(best, begun);
                    }
                }
                minutes[set] = best;
            }
        }

        /** The least LINK next of those with whom the rest still can. */
        void findOrder() {
            int minute = 0;
            int rest = (1 << count) - 1;
            for (int place = 0; place < count; place++) {
                for (int i = 0; i < count; i++) {
                    int behind = (rest >> i & 1) != 0 ? minutes[rest ^ 1 << i] : NONE;
                    int done = Math.max(minute, from[i]) + SIGNING;
                    if (behind != NONE && done <= Math.min(behind, to[i])) {
                        order[place] = i;
                        minute = done;
                        rest ^= 1 << i;
                        break;
                    }
                }
            }
        }
    }
}
