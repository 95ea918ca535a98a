/** The bounds that "Terms" 1 and 3 name, sentence by sentence: at the bound and just beyond it. */
public final class BoundsTest {
    public static void main(String[] args) {
        draws();
        drawsOrNone();
        links();
        firstAndLast();
        partsOfAll();
        partsInTurn();
        canPay();
        asking();
        bridging();
        paying();
        papers();
        leaving();
        moving();
        costing();
        joining();
        planning();
        lines();
        crossingTheLastLine();
        sixKept();
        eachUndone();
        forgotten();
        notForgotten();
        images();
        Due.end("BoundsTest");
    }

    private static TwelveChain chain(int links) {
        TwelveChain x = new TwelveChain();
        for (int i = 0; i < links; i++) {
            x.link(100, 0, 40, 1);
        }
        return x;
    }

    private static void ready(TwelveChain x, int... ones) {
        for (int i : ones) {
            x.set(4, i, 1);
        }
    }

    /** STATE behind so many DRAWS. */
    private static int after(int state, int draws) {
        long s = state;
        for (int i = 0; i < draws; i++) {
            s = s * 1664525L + 1013904223L & 0xffffffffL;
        }
        return (int) s;
    }

    /** The first DRAW of m from there. */
    private static int draw(int state, int m) {
        return (int) ((after(state, 1) & 0xffffffffL) / 256 % m);
    }

    /** "it becomes 1664525 times itself + 1013904223 (ints, which wrap), then it is its highest 24 bits (without sign) modulo m" */
    private static void draws() {
        int[] states = {0, 1, -1, Integer.MAX_VALUE, Integer.MIN_VALUE, 77, 123456789, -987654321, 0x7fffff00, 0x80000001, 5, 6, 7, 8, 9};
        boolean below = false;
        boolean above = false;
        for (int state : states) {
            int d = draw(state, 1000);
            below |= after(state, 1) < 0;
            above |= after(state, 1) > 0;
            for (int more = 0; more < 2; more++) {
                TwelveChain x = chain(2);
                x.set(1, 0, 100);
                Due.told(x, 0, "ready " + (d + more) + " when link=0;ready 1000;", 2);
                x.state(state);
                x.days(1);
                Due.is("ready " + (d + more) + " where " + d + " is drawn", x.of(0, 4), more);
                Due.is("state behind two draws", x.look(7), after(state, 2));
                x = chain(2);
                ready(x, 0, 1);
                if (d + more > 0) {
                    Due.told(x, 0, "leave " + (d + more) + " when link=0;", 1);
                    x.state(state);
                    x.days(1);
                    Due.is("leave " + (d + more) + " where " + d + " is drawn", x.of(0, 5), more);
                    Due.is("state behind one draw", x.look(7), after(state, 1));
                }
            }
        }
        Due.so("states of both signs were drawn from", below && above);
        // the same below 0 to 999: a DRAW that is 0
        int state = 0;
        while (draw(state, 1000) != 0) {
            state++;
        }
        TwelveChain x = chain(2);
        ready(x, 0, 1);
        Due.told(x, 0, "leave 1 when link=0;", 1);
        x.state(state);
        x.days(1);
        Due.is("leave 1 where 0 is drawn", x.of(0, 5), 1);
        while (draw(state, 1000) != 999) {
            state++;
        }
        for (int chance = 999; chance <= 1000; chance++) {
            x = chain(2);
            Due.told(x, 0, "ready " + chance + " when link=0;ready 0;", 2);
            x.state(state);
            x.days(1);
            Due.is("ready " + chance + " where 999 is drawn", x.of(0, 4), chance - 999);
        }
    }

    /** Who draws: (b) neither READY, OUT nor MOVED, whatever ready is; (c) neither OUT nor MOVED, if leave is above 0. */
    private static void drawsOrNone() {
        String[] laws = {"ready 0;", "ready 1000;", "ready 0;leave 1;", "ready 0;leave 0-1;", "ready 0;leave 1001 when link<0;"};
        int[] due = {3, 3, 6, 3, 3};
        for (int k = 0; k < laws.length; k++) {
            TwelveChain x = chain(3);
            Due.told(x, 0, laws[k], laws[k].split(";").length);
            x.state(3);
            x.days(1);
            Due.is("draws by \"" + laws[k] + "\"", x.look(7), after(3, due[k]));
        }
        TwelveChain x = chain(3);
        Due.told(x, 0, "leave 1000 when link=1;ready 0;", 2);
        x.state(3);
        x.days(1);
        Due.is("three for ready, one for leave", x.look(7), after(3, 4));
        Due.is("it is out", x.of(1, 5), 1);
        x.state(3);
        x.days(1);
        Due.is("who is OUT draws for neither", x.look(7), after(3, 2));
        ready(x, 0, 1, 2);
        x.state(3);
        x.days(1);
        Due.is("all READY: none draws", x.look(7), 3);
        x = chain(1);
        ready(x, 0);
        x.days(1);
        Due.is("one link has moved", x.look(3), 1);
        x.set(4, 0, 0);
        Due.told(x, 0, "ready 1000;leave 1000;", 2);
        x.state(3);
        x.days(60);
        Due.is("who has MOVED draws for neither", x.look(7), 3);
        Due.is("who has MOVED gets not READY", x.of(0, 4), 0);
        Due.is("who has MOVED gets not OUT", x.of(0, 5), 0);
    }

    /** "LINKS 0 .. 11 as they come, from the lowest one on" */
    private static void links() {
        TwelveChain x = new TwelveChain();
        for (int i = 0; i < 12; i++) {
            Due.is("links before link " + i, x.look(0), i);
            Due.is("of link " + i + " before it is", x.of(i, 0), -100000);
            Due.is("link " + i, x.link(1 + i, i, -i, i % 10), i);
            int[] due = {1 + i, i, -i, i % 10, 0, 0, 0, -1};
            for (int what = 0; what < due.length; what++) {
                Due.is("link " + i + " at first: " + what, x.of(i, what), due[what]);
            }
        }
        Due.is("a thirteenth", x.link(1, 1, 1, 1), -1);
        Due.is("twelve links", x.look(0), 12);
        // what a LINK below did leaves the next new one as it is at first
        TwelveChain y = chain(2);
        Due.told(y, 0, "leave 1000 when link=1;", 1);
        y.days(1);
        Due.is("a new one behind one that is OUT", y.link(7, 8, 9, 1), 2);
        int[] due = {7, 8, 9, 1, 0, 0, 0, -1};
        for (int what = 0; what < due.length; what++) {
            Due.is("the new one: " + what, y.of(2, what), due[what]);
        }
        // an image with fewer LINKS: those that came since are as new when they come again
        TwelveChain z = chain(2);
        z.image(true);
        z.link(7, 500, 9, 1);
        z.link(7, 500, 9, 1);
        z.set(1, 0, 999);
        z.set(1, 1, 999);
        z.bridge(2);
        ready(z, 0, 1, 2, 3);
        z.days(1);
        Due.is("four have moved", z.look(3), 15);
        z.image(false);
        Due.is("a third link again", z.link(7, 8, 9, 1), 2);
        for (int what = 0; what < due.length; what++) {
            Due.is("the third one again: " + what, z.of(2, what), due[what]);
        }
        Due.is("none is bridged", z.look(4), 0);
        Due.is("none has moved", z.look(3), 0);
    }

    /** "the first one has none to sell, whatever its PRICE; the last one buys none" */
    private static void firstAndLast() {
        TwelveChain x = chain(2);
        x.set(0, 1, 500);
        x.set(1, 0, 499);
        for (int price : new int[] {1, 500, 999}) {
            x.set(0, 0, price);
            Due.is("the first one can't pay at its price " + price, x.of(0, 12), 0);
            Due.is("the first one lacks 1 at its price " + price, x.gap(0), 1);
        }
        x.set(1, 0, 500);
        x.set(0, 0, 1);
        Due.is("the first one can pay by its purse", x.of(0, 12), 1);
        x.set(1, 1, -9999);
        Due.is("the last one always can", x.of(1, 12), 1);
        Due.is("the last one lacks nothing", x.gap(1), 0);
        x.link(1, 0, 0, 0);
        Due.is("it is the last one no more", x.of(1, 12), 0);
        Due.is("it lacks", x.gap(1), 1 + 9999 - 500);
        TwelveChain one = chain(1);
        one.set(1, 0, -9999);
        Due.is("a link alone is the last one", one.of(0, 12), 1);
    }

    /** "it begins with the first one or a BRIDGED one, ends with the last one or the next BRIDGED one (which is in both PARTS)" */
    private static void partsOfAll() {
        Due.is("no links, no parts", chain(0).look(5), 0);
        Due.is("one link, one part", chain(1).look(5), 1);
        Due.is("two links, one part", chain(2).look(5), 1);
        TwelveChain x = chain(12);
        for (int i = 1; i < 11; i++) {
            Due.is("bridge " + i, x.bridge(i), true);
            Due.is("parts with " + i + " bridged", x.look(5), i + 1);
        }
        Due.is("all bridged that can be", x.look(4), 2046);
        Due.is("lacks of the first", x.of(0, 13), 2);
        Due.is("lacks of the last", x.of(11, 13), 2);
        for (int i = 1; i < 11; i++) {
            Due.is("lacks of " + i + " in both parts", x.of(i, 13), 3);
        }
        ready(x, 5);
        Due.is("lacks beside a ready one", x.of(4, 13), 2);
        Due.is("lacks of a ready one", x.of(5, 13), 2);
        Due.is("lacks further on", x.of(7, 13), 3);
        TwelveChain y = chain(12);
        Due.is("lacks of twelve", y.of(5, 13), 12);
        y.bridge(6);
        Due.is("lacks below", y.of(0, 13), 7);
        Due.is("lacks above", y.of(11, 13), 6);
        Due.is("lacks of both", y.of(6, 13), 12);
        for (int i = 0; i < 12; i++) {
            ready(y, i);
        }
        Due.is("all ready, nothing lacks", y.of(6, 13), 0);
    }

    /** "PART by PART, the lowest one first": the lower one moves without the BRIDGED one that ends it. */
    private static void partsInTurn() {
        TwelveChain x = chain(5);
        for (int i = 0; i < 5; i++) {
            x.set(1, i, 900);
        }
        x.bridge(2);
        x.bridge(3);
        ready(x, 0, 1, 2, 3, 4);
        int before = x.look(6);
        Due.is("all parts move on one day", x.days(1), 5);
        for (int i = 0; i < 5; i++) {
            Due.is("moved in turn: what", x.book(before + i, 1), 5);
            Due.is("moved in turn: who", x.book(before + i, 2), i);
            Due.is("moved in turn: how many", x.book(before + i, 3), 0);
            Due.is("moved in turn: day", x.book(before + i, 0), 0);
        }
        // the PART between two BRIDGED ones moves first: its end waits for the upper one
        x = chain(5);
        x.set(1, 2, 900);
        x.bridge(2);
        x.bridge(3);
        ready(x, 2, 3);
        Due.told(x, 0, "ready 0;", 1);
        Due.is("the middle part moves alone", x.days(1), 1);
        Due.is("it is who begins it", x.look(3), 4);
        ready(x, 4);
        x.set(1, 3, 0);
        Due.is("the upper part: who begins and who ends it", x.days(1), 2);
        x.set(1, 0, 100);
        x.set(1, 1, 0);
        ready(x, 0, 1);
        Due.is("the lower part: its end has moved", x.days(1), 2);
        Due.is("all have moved", x.look(3), 31);
        Due.is("the end's own day stays", x.of(2, 7), 0);
        Due.is("no more moves", x.days(2), 0);
        // READY of one that has MOVED counts for the other PART
        x = chain(3);
        x.set(1, 1, 100);
        x.bridge(1);
        ready(x, 1, 2);
        Due.told(x, 0, "ready 0;", 1);
        Due.is("the upper part moves", x.days(1), 2);
        x.set(4, 1, 0);
        ready(x, 0);
        x.set(1, 0, 100);
        Due.is("all of its links must be READY", x.days(1), 0);
        ready(x, 1);
        Due.is("now they are", x.days(1), 1);
    }

    /** "if PRICE of LINK i + 1 is PURSE and PRICE of its own ... at most" */
    private static void canPay() {
        int[][] due = {{999, -9999, 999, 9999}, {1, 0, 1, 0}, {100, -99, 2, 1}, {100, -99, 1, 0}, {500, 499, 999, 0}, {500, 498, 999, 1},
            {1, -9999, 999, 10997}, {999, 9999, 1, 0}};
        for (int[] d : due) {
            TwelveChain x = new TwelveChain();
            x.link(1, 0, 0, 0);
            x.link(d[0], d[1], 0, 0);
            x.link(d[2], 0, 0, 0);
            Due.is("gap at " + d[0] + " " + d[1] + " " + d[2], x.gap(1), d[3]);
            Due.is("can pay at " + d[0] + " " + d[1] + " " + d[2], x.of(1, 12), d[3] == 0 ? 1 : 0);
        }
        TwelveChain x = new TwelveChain();
        x.link(999, -9999, 0, 0);
        x.link(999, 0, 0, 0);
        Due.is("the first one's greatest gap", x.gap(0), 10998);
    }

    /** "what that one gives (give, n, and PRICE less 1 at most)"; "WORTH (-999 at least)" */
    private static void asking() {
        TwelveChain x = chain(3);
        Due.is("n 1", x.ask(0, 1), 1);
        Due.told(x, 0, "give 999;", 1);
        Due.is("n 99", x.ask(1, 99), 99);
        Due.is("the price is 1 then", x.of(2, 0), 1);
        Due.is("worth falls below 0", x.of(2, 2), -59);
        Due.is("nothing is left to give", x.ask(1, 99), 0);
        Due.is("it is asked all the same", x.look(6), 3);
        Due.is("and can be undone", x.look(12), 3);
        x.set(0, 2, 2);
        Due.is("one is left", x.ask(1, 99), 1);
        x.set(0, 2, 999);
        x.set(2, 2, -950);
        Due.is("49 to the bound", x.ask(1, 49), 49);
        Due.is("worth at the bound", x.of(2, 2), -999);
        Due.is("1 beyond the bound", x.ask(1, 1), 1);
        Due.is("worth stays at the bound", x.of(2, 2), -999);
        Due.is("the price falls all the same", x.of(2, 0), 949);
        Due.told(x, 0, "give 0-5;", 1);
        Due.is("who gives nothing is asked", x.ask(1, 9), 0);
        Due.told(x, 0, "give link*10;", 1);
        Due.is("give is that of the one above", x.ask(0, 99), 10);
        TwelveChain y = chain(12);
        Due.is("the last but one asks", y.ask(10, 5), 5);
        Due.is("the last one asks", y.ask(11, 5), -1);
    }

    private static void bridging() {
        TwelveChain x = chain(3);
        Due.is("the middle one of three", x.bridge(1), true);
        TwelveChain two = chain(2);
        Due.is("two: the first", two.bridge(0), false);
        Due.is("two: the last", two.bridge(1), false);
        two.link(1, 1, 1, 1);
        Due.is("it is the last one no more", two.bridge(1), true);
        Due.is("one alone", chain(1).bridge(0), false);
        TwelveChain y = chain(12);
        Due.is("twelve: 11", y.bridge(11), false);
        Due.is("twelve: 10", y.bridge(10), true);
        Due.is("twelve: 1", y.bridge(1), true);
    }

    /** "neither beyond its bounds; else it can't be" */
    private static void paying() {
        TwelveChain x = chain(3);
        x.set(1, 0, -9998);
        Due.is("to -9999", x.pay(0, 1, 1), true);
        Due.is("at -9999", x.of(0, 1), -9999);
        Due.is("below -9999", x.pay(0, 1, 1), false);
        x.set(1, 2, 9900);
        Due.is("to 9999", x.pay(1, 2, 99), true);
        Due.is("at 9999", x.of(2, 1), 9999);
        Due.is("above 9999", x.pay(1, 2, 1), false);
        Due.is("who would pay keeps it", x.of(1, 1), -98);
        Due.is("from 9999", x.pay(2, 0, 99), true);
        Due.is("back from -9999", x.of(0, 1), -9900);
        Due.is("n 1", x.book(0, 3), 1);
        Due.is("n 99", x.book(1, 3), 99);
        // one that is OUT pays and is paid
        Due.told(x, 0, "leave 1000 when link=1;", 1);
        x.days(1);
        Due.is("out", x.of(1, 5), 1);
        Due.is("one that is OUT pays", x.pay(1, 0, 5), true);
        Due.is("one that is OUT is paid", x.pay(0, 1, 5), true);
    }

    private static void papers() {
        TwelveChain x = chain(12);
        Due.is("the first", x.paper(0), true);
        Due.is("the last", x.paper(11), true);
        Due.is("none", x.paper(12), false);
        x.set(4, 0, 0);
        Due.is("again, as it is not READY", x.paper(0), true);
    }

    /** "its READY and that of both neighbours that are not MOVED is 0" */
    private static void leaving() {
        for (int who = 0; who < 12; who++) {
            TwelveChain x = chain(12);
            for (int i = 0; i < 12; i++) {
                ready(x, i);
            }
            Due.told(x, 0, "leave 1000 when link=" + who + ";", 1);
            x.days(1);
            Due.is("falls", x.look(2), 1);
            for (int i = 0; i < 12; i++) {
                Due.is(who + " leaves: out " + i, x.of(i, 5), i == who ? 1 : 0);
                Due.is(who + " leaves: ready " + i, x.of(i, 4), Math.abs(i - who) > 1 ? 1 : 0);
            }
            Due.is("line: what", x.book(0, 1), 4);
            Due.is("line: who", x.book(0, 2), who);
            Due.is("line: how many", x.book(0, 3), 0);
            Due.is("one line", x.look(6), 1);
        }
        TwelveChain all = chain(12);
        Due.told(all, 0, "leave 1000;", 1);
        all.days(2);
        Due.is("all twelve leave, each once", all.look(2), 12);
        // leave as it is when its turn comes: who left took READY from the next one
        TwelveChain x = chain(3);
        ready(x, 0, 1, 2);
        Due.told(x, 0, "leave 1000 when link=0 or link=1 and lacks=2;", 1);
        x.days(1);
        Due.is("the next one's leave sees it", x.look(2), 2);
    }

    /** "are all of its LINKS READY, none OUT, and can each but its last one PAY" */
    private static void moving() {
        TwelveChain x = chain(1);
        x.set(1, 0, -9999);
        ready(x, 0);
        Due.is("one link alone moves", x.days(1), 1);
        x = chain(2);
        ready(x, 0, 1);
        x.set(1, 0, 99);
        Due.is("one short of paying", x.days(1), 0);
        x.set(1, 0, 100);
        x.set(1, 1, -9999);
        Due.is("just enough; the last one need not", x.days(1), 2);
        Due.is("the day it moved", x.of(0, 7), 1);
        x = chain(3);
        Due.told(x, 0, "leave 1000 when link=2 and day=0;", 1);
        x.set(1, 0, 100);
        x.days(1);
        ready(x, 0, 1, 2);
        Due.is("none OUT, READY or not", x.days(1), 0);
        x.join(2);
        ready(x, 2);
        Due.is("joined and READY", x.days(1), 3);
        Due.is("no links", chain(0).days(60), 0);
        x = chain(3);
        x.set(1, 0, 100);
        ready(x, 0, 1);
        Due.told(x, 0, "ready 0;", 1);
        Due.is("one is not READY", x.days(3), 0);
        x.paper(2);
        Due.is("of three days, on the first", x.days(3), 3);
        Due.is("moved on day 3", x.of(2, 7), 3);
        Due.is("day 6", x.look(1), 6);
    }

    /** "Of each LINK that is BRIDGED, neither MOVED nor OUT: PURSE is cost less (-9999 at least)" */
    private static void costing() {
        int[][] due = {{-9900, 99, -9999}, {-9901, 99, -9999}, {-9999, 99, -9999}, {-9899, 99, -9998}, {-9999, 0, -9999}, {5, 99, -94},
            {9999, 1, 9998}};
        for (int[] d : due) {
            TwelveChain x = chain(4);
            x.bridge(1);
            x.set(1, 1, d[0]);
            Due.told(x, 0, "ready 0;cost " + d[1] + ";", 2);
            x.days(1);
            Due.is("cost " + d[1] + " from " + d[0], x.of(1, 1), d[2]);
            Due.is("who is not BRIDGED pays none", x.of(2, 1), 0);
            Due.is("it is not in the book", x.look(6), 1);
        }
        TwelveChain x = chain(4);
        x.bridge(1);
        x.bridge(2);
        Due.told(x, 0, "ready 0;leave 1000 when link=1 and day=1;", 2);
        x.days(2);
        Due.is("who is OUT pays no more", x.of(1, 1), -3);
        Due.is("who is not pays on", x.of(2, 1), -6);
        x.join(1);
        x.days(1);
        Due.is("who came in for it pays", x.of(1, 1), -6);
        Due.is("it is BRIDGED still", x.look(4), 6);
        // on the day of the move none
        x = chain(3);
        x.set(1, 1, 100);
        x.bridge(1);
        ready(x, 1, 2);
        x.days(1);
        Due.is("who moves on this day pays none", x.of(1, 1), 100);
    }

    private static void joining() {
        TwelveChain x = chain(3);
        Due.told(x, 0, "leave 1000 when day=0;", 1);
        x.days(1);
        Due.is("all out", x.look(2), 3);
        x.set(4, 2, 1);
        for (int i = 0; i < 3; i++) {
            Due.is("join " + i, x.join(i), true);
            Due.is("joined: out", x.of(i, 5), 0);
            Due.is("joined: ready", x.of(i, 4), 0);
            Due.is("joined: line", x.book(3 + i, 1), 6);
            Due.is("joined: who", x.book(3 + i, 2), i);
            Due.is("joined: how many", x.book(3 + i, 3), 0);
            Due.is("joined: day", x.book(3 + i, 0), 1);
            Due.is("joined: purse stays", x.of(i, 1), 0);
        }
        Due.is("falls stay", x.look(2), 3);
        Due.is("no more can join", x.join(2), false);
    }

    /** "DAY 0 .. 999", "Line by line of A PLAN for this DAY: what can be done" */
    private static void planning() {
        TwelveChain x = chain(3);
        Due.told(x, 1, "on 0 paper 0;on 999 paper 1;on 999 paper 1;on 998 ask 1 1;", 4);
        Due.told(x, 0, "ready 0;", 1);
        x.days(1);
        Due.is("on day 0", x.look(6), 1);
        for (int i = 0; i < 16; i++) {
            x.days(60);
        }
        x.days(37);
        Due.is("day 998", x.look(1), 998);
        Due.is("nothing between", x.look(6), 1);
        x.days(1);
        Due.is("on day 998", x.look(6), 2);
        x.days(1);
        Due.is("on day 999, once of two", x.look(6), 3);
        Due.is("its day", x.book(2, 0), 999);
        x.days(60);
        Due.is("nothing later", x.look(6), 3);
        // what can't be done is left out, and what it makes possible is done
        x = chain(3);
        Due.told(x, 0, "ready 0;give 99;", 2);
        x.set(1, 0, -9949);
        Due.told(x, 1, "on 0 pay 0 1 50;on 0 pay 0 1 1;on 0 pay 1 0 1;on 0 pay 0 2 1;on 0 ask 2 9;on 0 bridge 2;on 0 paper 0;on 0 paper 0;", 8);
        x.days(1);
        int[][] due = {{2, 0, 50}, {2, 1, 1}, {2, 0, 1}, {3, 0, 0}};
        Due.is("four of eight are done", x.look(6), 4);
        for (int i = 0; i < 4; i++) {
            for (int what = 1; what < 4; what++) {
                Due.is("done " + i + ": " + what, x.book(i, what), due[i][what - 1]);
            }
        }
        Due.is("purse at its least", x.of(0, 1), -9999);
        // PAPER by plan comes ahead of (b)
        x = chain(1);
        Due.told(x, 1, "on 0 paper 0;", 1);
        x.state(3);
        Due.is("papers, then moves", x.days(1), 1);
        Due.is("no draw for it", x.look(7), 3);
    }

    /** "THE BOOK (150 lines; no more then)" */
    private static void lines() {
        TwelveChain x = chain(2);
        for (int i = 0; i < 149; i++) {
            x.pay(i % 2, 1 - i % 2, 1 + i % 99);
        }
        Due.is("149 lines", x.look(6), 149);
        Due.is("no line 149 yet", x.book(149, 0), -1);
        x.paper(1);
        Due.is("150 lines", x.look(6), 150);
        int[] due = {0, 3, 1, 0};
        for (int what = 0; what < 4; what++) {
            Due.is("line 149: " + what, x.book(149, what), due[what]);
        }
        Due.is("line 0", x.book(0, 3), 1);
        Due.is("line 148", x.book(148, 3), 50);
        Due.is("asked without a line", x.ask(0, 5), 5);
        Due.is("the price falls", x.of(1, 0), 95);
        x.link(5, 5, 5, 5);
        Due.is("bridged without a line", x.bridge(1), true);
        Due.is("paid without a line", x.pay(0, 1, 5), true);
        Due.is("paper without a line", x.paper(0), true);
        Due.told(x, 0, "ready 0;leave 1000 when link=2 and day=0;", 2);
        x.days(1);
        Due.is("out without a line", x.of(2, 5), 1);
        Due.is("joined without a line", x.join(2), true);
        Due.is("no line more", x.look(6), 150);
        Due.is("no line 150", x.book(150, 0), -1);
        Due.is("line 149 stays", x.book(149, 2), 1);
        Due.is("six can be undone", x.look(12), 5);
        Due.is("undo without a line", x.undo(), true);
        Due.is("who joined is out again", x.of(2, 5), 1);
        Due.is("150 lines stay", x.look(6), 150);
        x.image(true);
        x.image(false);
        Due.is("150 lines in the image", x.look(6), 150);
        Due.is("line 149 in the image", x.book(149, 1), 3);
        Due.is("line 0 in the image", x.book(0, 1), 2);
    }

    /** A DAY whose lines do not all find room is done all the same, and undone. */
    private static void crossingTheLastLine() {
        TwelveChain x = chain(3);
        x.set(1, 0, 300);
        for (int i = 0; i < 146; i++) {
            x.pay(1 + i % 2, 2 - i % 2, 7);
        }
        Due.told(x, 0, "ready 1000;", 1);
        Due.is("three in thought", x.goes(1, 0), 3);
        Due.is("no line in thought", x.look(6), 146);
        Due.is("three move", x.days(1), 3);
        Due.is("four of six lines", x.look(6), 150);
        int[][] due = {{0, 3, 0, 0}, {0, 3, 1, 0}, {0, 3, 2, 0}, {0, 5, 0, 0}};
        for (int i = 0; i < 4; i++) {
            for (int what = 0; what < 4; what++) {
                Due.is("line " + (146 + i) + ": " + what, x.book(146 + i, what), due[i][what]);
            }
        }
        Due.is("all have moved", x.look(3), 7);
        x.undo();
        Due.is("146 lines again", x.look(6), 146);
        Due.is("none has moved", x.look(3), 0);
        Due.is("line 146 is gone", x.book(146, 1), -1);
        x.pay(0, 1, 9);
        Due.is("line 146 is another one", x.book(146, 1), 2);
        Due.is("147 lines", x.look(6), 147);
    }

    /** "6 are kept" */
    private static void sixKept() {
        for (int deeds = 0; deeds < 9; deeds++) {
            TwelveChain x = chain(2);
            for (int i = 0; i < deeds; i++) {
                x.pay(0, 1, 1 + i);
            }
            int kept = Math.min(6, deeds);
            Due.is(deeds + " deeds: kept", x.look(12), kept);
            for (int i = 0; i < kept; i++) {
                Due.is(deeds + " deeds: undo " + i, x.undo(), true);
                Due.is(deeds + " deeds: left", x.look(12), kept - 1 - i);
                Due.is(deeds + " deeds: lines", x.look(6), deeds - 1 - i);
            }
            Due.is(deeds + " deeds: no more", x.undo(), false);
            Due.is(deeds + " deeds: lines stay", x.look(6), deeds - kept);
            x.pay(1, 0, 50);
            x.pay(1, 0, 50);
            Due.is("two more", x.look(12), 2);
            x.undo();
            x.undo();
            Due.is("two undone", x.look(6), deeds - kept);
            Due.is("and no more", x.undo(), false);
        }
        TwelveChain x = chain(1);
        x.days(60);
        Due.is("sixty days: six kept", x.look(12), 6);
        for (int i = 0; i < 6; i++) {
            x.undo();
        }
        Due.is("day 54", x.look(1), 54);
        Due.is("no seventh", x.undo(), false);
        Due.is("day 54 stays", x.look(1), 54);
    }

    interface Deed {
        void on(TwelveChain x);
    }

    private static TwelveChain some() {
        TwelveChain x = chain(5);
        Due.tell(x, 0, "ready 500;leave 300 when day>0;leave 1000 when link=4;give 9;cost 5;");
        Due.tell(x, 1, "on 1 pay 0 1 5;on 1 bridge 2;");
        x.bridge(1);
        x.days(1);
        x.state(11);
        return x;
    }

    /** "the latest DAY, ASKING, BRIDGING, PAYING, PAPER, JOINING ... goes back (STATE, THE BOOK, too)" */
    private static void eachUndone() {
        Deed[] deeds = {x -> x.ask(0, 5), x -> x.bridge(3), x -> x.pay(0, 1, 5), x -> x.paper(0), x -> x.join(4), x -> x.days(1)};
        for (int i = 0; i < deeds.length; i++) {
            TwelveChain x = some();
            Due.is("one who can join", x.of(4, 5), 1);
            x.set(4, 0, 0);
            String before = Seen.of(x);
            deeds[i].on(x);
            Due.is("deed " + i + " can be undone", x.look(12), 1);
            Due.so("deed " + i + " is seen", !Seen.of(x).equals(before));
            Due.is("undo deed " + i, x.undo(), true);
            Seen.alike("deed " + i + " undone", Seen.of(x), before);
            Due.is("undo deed " + i + " once", x.undo(), false);
        }
    }

    /** "whatever else is told but THE LAW, PHONES, RECORDS ... forgets them" */
    private static void forgotten() {
        Deed[] told = {x -> x.state(11), x -> x.state(0), x -> x.link(1, 1, 1, 1), x -> x.set(0, 0, 100), x -> x.set(1, 0, 0),
            x -> x.set(2, 0, 40), x -> x.set(3, 0, 1), x -> x.set(4, 0, x.of(0, 4)), x -> Due.tell(x, 1, ""),
            x -> Due.tell(x, 1, "on 5 paper 0;")};
        for (int i = 0; i < told.length; i++) {
            TwelveChain x = some();
            x.pay(0, 1, 5);
            x.days(2);
            Due.is("three to undo", x.look(12), 3);
            told[i].on(x);
            Due.is("told " + i + ": none to undo", x.look(12), 0);
            Due.is("told " + i + ": undo", x.undo(), false);
            Due.is("told " + i + ": the day stays", x.look(1), 3);
        }
        TwelveChain x = some();
        x.image(true);
        x.pay(0, 1, 5);
        x.image(false);
        Due.is("gone back: none to undo", x.look(12), 0);
    }

    private static void notForgotten() {
        Deed[] told = {x -> Due.tell(x, 0, "ready 1;"), x -> Due.tell(x, 0, ""), x -> Due.tell(x, 2, "link 0 from 1 to 99;"),
            x -> Due.tell(x, 2, ""), x -> Due.tell(x, 3, "day 5 link 0;"), x -> Due.tell(x, 3, ""), x -> x.image(true),
            x -> x.feed(1, 2, 3, 4, 5), x -> x.end(0), x -> Due.tell(x, 1, "on"), x -> x.text(4), x -> x.set(0, 0, 0),
            x -> x.link(0, 0, 0, 0), x -> x.days(0), x -> x.image(false), x -> x.goes(9, 0), x -> x.signs(0)};
        for (int i = 0; i < told.length; i++) {
            TwelveChain x = some();
            x.pay(0, 1, 5);
            x.days(2);
            told[i].on(x);
            Due.is("not forgotten " + i, x.look(12), 3);
            for (int k = 0; k < 3; k++) {
                Due.is("not forgotten " + i + ": undo", x.undo(), true);
            }
            Due.is("not forgotten " + i + ": lines", x.look(6), some().look(6));
            Due.is("not forgotten " + i + ": day", x.look(1), 1);
            Due.is("not forgotten " + i + ": state", x.look(7), 11);
        }
        // a law told since tells what the undone DAY then does
        TwelveChain x = chain(2);
        x.days(1);
        Due.tell(x, 0, "ready 1000;");
        x.undo();
        Due.is("the law stays", x.look(8), 1);
        x.days(1);
        Due.is("another day 0", x.look(6), 2);
    }

    /** "gone back to it may be more than once", "as it was when it was taken" */
    private static void images() {
        TwelveChain none = new TwelveChain();
        Due.is("an image of nothing", none.image(true), true);
        for (int i = 0; i < 12; i++) {
            none.link(5, 5, 5, 5);
        }
        none.state(5);
        Due.is("back to nothing", none.image(false), true);
        Seen.alike("back to nothing", Seen.of(none), Seen.of(new TwelveChain()));
        TwelveChain x = some();
        Due.tell(x, 2, "link 0 from 1 to 99;");
        Due.tell(x, 3, "day 5 link 0;");
        x.image(true);
        // a taken one stays as it was, whatever is told since; a second one takes its place
        String first = Seen.of(x);
        for (int time = 0; time < 2; time++) {
            for (int i = 0; i < 5; i++) {
                for (int what = 0; what < 5; what++) {
                    x.set(what, i, 1);
                }
            }
            x.days(3);
            x.image(false);
            Seen.alike("back, time " + time, Seen.of(x), first);
        }
        x.set(2, 0, -7);
        x.image(true);
        x.set(2, 0, -8);
        x.set(3, 0, 8);
        x.image(false);
        Due.is("the second image", x.of(0, 2), -7);
        Due.is("the second image: slow", x.of(0, 3), 1);
        // undo reaches not behind it
        x.pay(0, 1, 5);
        x.image(false);
        Due.is("nothing to undo", x.undo(), false);
        Due.is("the second image again", x.of(0, 1), 0);
    }
}
