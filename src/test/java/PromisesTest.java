/** For each promise ordinary inputs, the edges that the document names, and wrong inputs. */
public final class PromisesTest {
    private static final int NOT_TOLD = -100000;

    public static void main(String[] args) {
        newObject();
        state();
        link();
        set();
        ask();
        bridge();
        pay();
        paper();
        join();
        days();
        daysInOrder();
        tape();
        of();
        phone();
        book();
        goes();
        odds();
        holds();
        many();
        bridges();
        share();
        along();
        choice();
        bluff();
        signs();
        money();
        ill();
        wrote();
        slowest();
        game();
        soon();
        hurry();
        split();
        gap();
        runs();
        undo();
        image();
        look();
        Due.end("PromisesTest");
    }

    /** LINKS at 100, 200, .. with a PURSE of 200, WORTH 40, SLOW 1. */
    private static TwelveChain chain(int links) {
        TwelveChain x = new TwelveChain();
        for (int i = 0; i < links; i++) {
            x.link(100 + 100 * i % 900, 200, 40, 1);
        }
        return x;
    }

    private static void newObject() {
        TwelveChain x = new TwelveChain();
        int[] due = {0, 0, 0, 0, 0, 0, 0, 0, 0, 0, 0, 0, 0};
        for (int what = 0; what < due.length; what++) {
            Due.is("new: look " + what, x.look(what), due[what]);
        }
        Due.is("new: fault(0)", x.fault(0), 0);
        Due.is("new: fault(1)", x.fault(1), -1);
        Due.is("new: undo", x.undo(), false);
        Due.is("new: image", x.image(false), false);
        Due.is("new: end(1)", x.end(1), false);
        Due.is("NONE", TwelveChain.NONE, -1);
    }

    private static void state() {
        TwelveChain x = chain(2);
        Due.is("state was 0", x.state(77), 0);
        Due.is("state was 77", x.state(-5), 77);
        Due.is("state is", x.look(7), -5);
        x.paper(0);
        x.state(-5);
        Due.is("state forgets what can be undone", x.look(12), 0);
        // two DRAWS from 0
        x = chain(2);
        x.days(1);
        Due.is("state behind two draws", x.look(7), 1196435762);
    }

    private static void link() {
        TwelveChain x = new TwelveChain();
        int[][] bad = {{0, 0, 0, 0}, {1000, 0, 0, 0}, {1, -10000, 0, 0}, {1, 10000, 0, 0}, {1, 0, -1000, 0}, {1, 0, 1000, 0},
            {1, 0, 0, -1}, {1, 0, 0, 10}};
        for (int[] b : bad) {
            Due.is("link that can't be", x.link(b[0], b[1], b[2], b[3]), -1);
        }
        Due.is("link at its least", x.link(1, -9999, -999, 0), 0);
        Due.is("link at its most", x.link(999, 9999, 999, 9), 1);
        int[] due = {999, 9999, 999, 9, 0, 0, 0, -1};
        for (int what = 0; what < due.length; what++) {
            Due.is("link's " + what, x.of(1, what), due[what]);
        }
        for (int i = 2; i < 12; i++) {
            x.paper(0);
            Due.is("link " + i, x.link(5, 5, 5, 5), i);
            Due.is("link forgets what can be undone", x.undo(), false);
        }
        Due.is("a thirteenth link", x.link(5, 5, 5, 5), -1);
        Due.is("links", x.look(0), 12);
    }

    private static void set() {
        TwelveChain x = chain(3);
        int[][] bounds = {{1, 999}, {-9999, 9999}, {-999, 999}, {0, 9}, {0, 1}};
        for (int what = 0; what < 5; what++) {
            for (int v : bounds[what]) {
                Due.is("set " + what + " to " + v, x.set(what, 1, v), true);
                Due.is("set " + what + " of it", x.of(1, what), v);
            }
            Due.is("set " + what + " too low", x.set(what, 1, bounds[what][0] - 1), false);
            Due.is("set " + what + " too high", x.set(what, 1, bounds[what][1] + 1), false);
            Due.is("set " + what + " of none", x.set(what, 3, 1), false);
            Due.is("set " + what + " of -1", x.set(what, -1, 1), false);
        }
        Due.is("set 5", x.set(5, 1, 1), false);
        Due.is("set -1", x.set(-1, 1, 1), false);
        x.pay(0, 2, 5);
        Due.is("set that can't be", x.set(0, 0, 0), false);
        Due.is("set that can't be forgets nothing", x.look(12), 1);
        Due.is("set", x.set(0, 0, 7), true);
        Due.is("set forgets what can be undone", x.look(12), 0);
    }

    private static void ask() {
        TwelveChain x = chain(3);
        Due.is("ask of give 10", x.ask(0, 60), 10);
        Due.is("ask: price", x.of(1, 0), 190);
        Due.is("ask: worth", x.of(1, 2), 30);
        Due.is("ask less than give", x.ask(1, 4), 4);
        Due.is("ask of the last", x.ask(2, 4), -1);
        Due.is("ask of none", x.ask(3, 4), -1);
        Due.is("ask of -1", x.ask(-1, 4), -1);
        Due.is("ask 0", x.ask(0, 0), -1);
        Due.is("ask 100", x.ask(0, 100), -1);
        Due.is("asked alone can be undone", x.look(12), 2);
        x.set(2, 1, 999);
        x.set(0, 1, 30);
        Due.is("ask price less 1 at most", x.ask(0, 99), 29);
        Due.is("ask a price of 1", x.ask(0, 99), 0);
        Due.is("ask's line", x.book(3, 3), 0);
        Due.is("ask's link is who gave", x.book(3, 2), 1);
        Due.told(x, 0, "give 50;", 1);
        x.set(2, 2, -990);
        Due.is("ask", x.ask(1, 50), 50);
        Due.is("ask: worth at least", x.of(2, 2), -999);
        Due.told(x, 0, "leave 1000 when link=2;ready 0;", 2);
        x.days(1);
        Due.is("ask one that is OUT", x.ask(1, 5), -1);
        Due.is("one that is OUT asks", x.ask(0, 5), 0);
        // a BRIDGED one whose lower PART has MOVED
        x = moved();
        Due.is("ask one that is MOVED", x.ask(0, 5), -1);
        Due.is("one that is MOVED asks", x.ask(1, 5), 5);
    }

    /** Three PARTS of 5 LINKS, BRIDGED at 2 and 3, the lowest of which has MOVED. */
    private static TwelveChain moved() {
        TwelveChain x = chain(5);
        x.bridge(2);
        x.bridge(3);
        Due.told(x, 0, "ready 0;", 1);
        for (int i = 0; i < 3; i++) {
            x.paper(i);
        }
        Due.is("the lowest part moves", x.days(1), 2);
        Due.is("the lowest part has moved", x.look(3), 3);
        return x;
    }

    private static void bridge() {
        TwelveChain x = chain(4);
        Due.is("bridge the first", x.bridge(0), false);
        Due.is("bridge the last", x.bridge(3), false);
        Due.is("bridge none", x.bridge(4), false);
        Due.is("bridge -1", x.bridge(-1), false);
        Due.is("bridge", x.bridge(2), true);
        Due.is("bridge again", x.bridge(2), false);
        Due.is("bridge's line", x.book(0, 1), 1);
        Due.is("bridge's link", x.book(0, 2), 2);
        Due.is("bridge's number", x.book(0, 3), 0);
        Due.told(x, 0, "leave 1000 when link=1;", 1);
        x.days(1);
        Due.is("bridge one that is OUT", x.bridge(1), false);
        x = moved();
        Due.is("bridge one that is MOVED", x.bridge(1), false);
        Due.is("bridged ones", x.look(4), 12);
    }

    private static void pay() {
        TwelveChain x = chain(3);
        Due.is("pay 1", x.pay(0, 2, 1), true);
        Due.is("pay 99", x.pay(0, 2, 99), true);
        Due.is("pay: who paid", x.of(0, 1), 100);
        Due.is("pay: who has it", x.of(2, 1), 300);
        Due.is("pay's line", x.book(1, 1), 2);
        Due.is("pay's link", x.book(1, 2), 0);
        Due.is("pay's number", x.book(1, 3), 99);
        Due.is("pay 0", x.pay(0, 2, 0), false);
        Due.is("pay 100", x.pay(0, 2, 100), false);
        Due.is("pay oneself", x.pay(1, 1, 5), false);
        Due.is("pay to none", x.pay(0, 3, 5), false);
        Due.is("pay from none", x.pay(3, 0, 5), false);
        Due.is("pay from -1", x.pay(-1, 0, 5), false);
        Due.is("pay to -1", x.pay(0, -1, 5), false);
        x.set(1, 0, -9990);
        Due.is("pay below the bounds", x.pay(0, 1, 10), false);
        Due.is("pay to the bounds", x.pay(0, 1, 9), true);
        x.set(1, 2, 9990);
        Due.is("pay above the bounds", x.pay(1, 2, 10), false);
        Due.is("pay up to the bounds", x.pay(1, 2, 9), true);
        Due.is("not paid: all as it was", x.of(1, 1), 200);
        Due.is("pay one who has moved", moved().pay(3, 0, 5), true);
    }

    private static void paper() {
        TwelveChain x = chain(3);
        Due.is("paper", x.paper(1), true);
        Due.is("paper: ready", x.of(1, 4), 1);
        Due.is("paper again", x.paper(1), false);
        Due.is("paper of none", x.paper(3), false);
        Due.is("paper of -1", x.paper(-1), false);
        Due.is("paper's line", x.book(0, 1), 3);
        Due.is("paper's link", x.book(0, 2), 1);
        Due.told(x, 0, "leave 1000 when link=2;ready 0;", 2);
        x.days(1);
        Due.is("paper of one that is OUT", x.paper(2), false);
        Due.is("paper of its neighbour", x.paper(1), true);
        x = moved();
        x.set(4, 0, 0);
        Due.is("paper of one that is MOVED", x.paper(0), false);
    }

    private static void join() {
        TwelveChain x = chain(3);
        Due.told(x, 0, "leave 1000 when link=1;ready 0;", 2);
        Due.is("join one that is not OUT", x.join(1), false);
        x.days(1);
        x.set(4, 1, 1);
        Due.is("out", x.of(1, 5), 1);
        Due.is("join none", x.join(3), false);
        Due.is("join -1", x.join(-1), false);
        Due.is("join", x.join(1), true);
        Due.is("joined: not out", x.of(1, 5), 0);
        Due.is("joined: not ready", x.of(1, 4), 0);
        Due.is("joined: falls stay", x.look(2), 1);
        Due.is("join's line", x.book(1, 1), 6);
        Due.is("join's day", x.book(1, 0), 1);
        Due.is("join's link", x.book(1, 2), 1);
        Due.is("join again", x.join(1), false);
    }

    private static void days() {
        TwelveChain x = chain(3);
        Due.told(x, 0, "ready 1000;", 1);
        Due.is("days 0", x.days(0), -1);
        Due.is("days 61", x.days(61), -1);
        Due.is("no day went by", x.look(1), 0);
        Due.is("days: three move", x.days(2), 3);
        Due.is("days: on this day", x.of(1, 7), 0);
        Due.is("day", x.look(1), 2);
        Due.is("lines: three ready, three moved", x.look(6), 6);
        x = new TwelveChain();
        for (int i = 0; i < 166; i++) {
            x.days(60);
        }
        Due.is("day 9960", x.look(1), 9960);
        Due.is("beyond 9999", x.days(40), -1);
        Due.is("nothing is done", x.look(1), 9960);
        Due.is("to 9999", x.days(39), 0);
        Due.is("one more", x.days(1), -1);
        Due.is("day 9999", x.look(1), 9999);
    }

    private static void daysInOrder() {
        // one OUT: READY of it and its neighbours is 0, but not of one that is MOVED
        TwelveChain x = moved();
        for (int i = 2; i < 5; i++) {
            x.paper(i);
        }
        Due.told(x, 0, "leave 1000 when link=2;", 1);
        x.days(1);
        Due.is("moved stays ready", x.of(1, 4), 1);
        Due.is("out is not ready", x.of(2, 4), 0);
        Due.is("neighbour is not ready", x.of(3, 4), 0);
        Due.is("further on is ready", x.of(4, 4), 1);
        Due.is("one more fall", x.look(2), 1);
        // a LINK that can't PAY holds its PART, its last one need not
        x = chain(4);
        x.bridge(1);
        x.set(1, 1, -500);
        Due.told(x, 0, "ready 1000;cost 7;", 2);
        Due.is("the lower part moves", x.days(1), 1);
        Due.is("a bridge costs", x.of(1, 1), -507);
        x.set(1, 1, 500);
        Due.is("the upper part moves", x.days(1), 3);
        Due.is("who moved pays no more", x.of(1, 1), 500);
        Due.is("its day", x.of(1, 7), 1);
        Due.is("the lowest's day", x.of(0, 7), 0);
        // bridged, at the bound
        x = chain(3);
        x.bridge(1);
        Due.told(x, 0, "cost 99;ready 0;", 2);
        x.set(1, 1, -9950);
        x.days(1);
        Due.is("purse at least", x.of(1, 1), -9999);
        // A PLAN: what can be done, line by line, on its DAY
        x = chain(3);
        Due.told(x, 1, "on 1 paper 2;on 1 ask 2 5;on 1 ask 0 5;on 1 bridge 0;on 1 bridge 1;on 1 pay 2 0 9;on 2 paper 0;", 7);
        Due.told(x, 0, "ready 0;", 1);
        x.days(1);
        Due.is("nothing planned", x.look(6), 0);
        x.days(1);
        Due.is("four done", x.look(6), 4);
        int[] what = {3, 0, 1, 2};
        int[] link = {2, 1, 1, 2};
        int[] n = {0, 5, 0, 9};
        for (int i = 0; i < 4; i++) {
            Due.is("planned day " + i, x.book(i, 0), 1);
            Due.is("planned what " + i, x.book(i, 1), what[i]);
            Due.is("planned link " + i, x.book(i, 2), link[i]);
            Due.is("planned n " + i, x.book(i, 3), n[i]);
        }
        // LINK by LINK: lacks falls while one after the other gets ready
        x = chain(3);
        Due.told(x, 0, "ready 1000 when lacks<3;ready 1000 when link=0;ready 0;", 3);
        x.days(1);
        Due.is("all ready one behind the other", x.look(3), 7);
        // READY and MOVED ones make no DRAWS
        x.state(5);
        x.days(3);
        Due.is("no draws", x.look(7), 5);
        // leave above 0 draws once a LINK
        x = chain(2);
        x.set(4, 0, 1);
        x.set(4, 1, 1);
        x.set(1, 0, 0);
        Due.told(x, 0, "leave 1;", 1);
        x.days(1);
        Due.is("two draws for leave", x.look(7), 1196435762);
    }

    private static void tape() {
        TwelveChain x = chain(1);
        for (int i = 1; i <= 20; i++) {
            Due.is("feed " + i, x.feed(0x67697665, 0x20373b0a, 0x20202020, 0, -1), 20 * i);
        }
        Due.is("feed beyond 400", x.feed(0, 0, 0, 0, 0), -1);
        Due.is("end 401", x.end(401), false);
        Due.is("end -1", x.end(-1), false);
        Due.is("end 400", x.end(400), true);
        Due.is("end 381", x.end(381), true);
        Due.is("feed to 401", x.feed(0, 0, 0, 0, 0), -1);
        Due.is("end 12", x.end(12), true);
        Due.is("end 13", x.end(13), false);
        Due.is("text: a line", x.text(0), 1);
        Due.is("give", x.of(0, 10), 7);
        Due.is("the tape is empty then", x.end(1), false);
        Due.is("end 0", x.end(0), true);
        Due.is("no such text 4", Due.tell(x, 4, "give 8;"), -1);
        Due.is("fault tells 0", x.fault(0), 0);
        Due.is("the tape is empty then", x.feed(0, 0, 0, 0, 0), 20);
        Due.is("zeroes are no blanks", x.text(0), -1);
        Due.is("fault", x.fault(0), 1);
        Due.is("its place", x.fault(1), 0);
        Due.is("fault 2", x.fault(2), -1);
        Due.is("fault -1", x.fault(-1), -1);
        Due.is("the tape is empty behind a fault", x.feed(0, 0, 0, 0, 0), 20);
        x.end(0);
        Due.is("no such text -1", x.text(-1), -1);
        Due.is("fault tells 0 again", x.fault(0), 0);
        Due.is("fault's place is none", x.fault(1), -1);
        Due.is("the law stays as it was", x.of(0, 10), 7);
        Due.told(x, 0, "", 0);
        Due.is("the law is empty", x.of(0, 10), 10);
    }

    private static void of() {
        TwelveChain x = new TwelveChain();
        x.link(100, 90, -7, 9);
        x.link(200, 99, 81, 0);
        x.link(299, -5, 3, 4);
        int[][] due = {{100, 90, -7, 9, 0, 0, 0, -1, 30, 0, 0, 3, 0, 3}, {200, 99, 81, 0, 0, 0, 0, -1, 300, 0, 20, 3, 1, 3},
            {299, -5, 3, 4, 0, 0, 0, -1, 180, 0, 0, 3, 1, 3}};
        for (int i = 0; i < 3; i++) {
            for (int what = 0; what < 14; what++) {
                Due.is("of " + i + " " + what, x.of(i, what), due[i][what]);
            }
        }
        Due.is("of none", x.of(3, 0), NOT_TOLD);
        Due.is("of -1", x.of(-1, 0), NOT_TOLD);
        Due.is("of 0 14", x.of(0, 14), NOT_TOLD);
        Due.is("of 0 -1", x.of(0, -1), NOT_TOLD);
        // the first one pays from its PURSE alone
        x.set(1, 0, 200);
        Due.is("the first can pay", x.of(0, 12), 1);
        x.set(1, 1, 98);
        Due.is("one too few", x.of(1, 12), 0);
        // lacks of a BRIDGED one: of both PARTS, itself once
        x.link(5, 5, 5, 5);
        x.bridge(2);
        x.paper(0);
        Due.is("lacks below", x.of(0, 13), 2);
        Due.is("lacks of both", x.of(2, 13), 3);
        Due.is("lacks above", x.of(3, 13), 2);
    }

    private static void phone() {
        TwelveChain x = chain(3);
        Due.told(x, 2, "link 1 from 5 to 20;link 0 from 0 to 240;link 1 from 7 to 9;", 3);
        Due.told(x, 3, "day 5 link 1;day 5 link 1;day 0 link 2;", 3);
        int[][] due = {{0, 240, 0}, {7, 9, 2}, {0, 240, 1}};
        for (int i = 0; i < 3; i++) {
            for (int what = 0; what < 3; what++) {
                Due.is("phone " + i + " " + what, x.phone(i, what), due[i][what]);
            }
        }
        Due.is("phone of none", x.phone(3, 0), -1);
        Due.is("phone of -1", x.phone(-1, 0), -1);
        Due.is("phone 3", x.phone(0, 3), -1);
        Due.is("phone -1", x.phone(0, -1), -1);
    }

    private static void book() {
        TwelveChain x = chain(2);
        x.days(3);
        x.undo();
        int before = x.look(6);
        for (int i = before; i < 150; i++) {
            x.pay(i % 2, 1 - i % 2, 1 + i % 50);
        }
        Due.is("150 lines", x.look(6), 150);
        Due.is("pay without a line", x.pay(0, 1, 7), true);
        Due.is("150 lines stay", x.look(6), 150);
        Due.is("the last line", x.book(149, 3), 50);
        Due.is("its day", x.book(149, 0), 2);
        Due.is("its link", x.book(149, 2), 1);
        Due.is("line 150", x.book(150, 0), -1);
        Due.is("line -1", x.book(-1, 0), -1);
        Due.is("what 4", x.book(0, 4), -1);
        Due.is("what -1", x.book(0, -1), -1);
        Due.is("undo without a line", x.undo(), true);
        Due.is("150 lines still", x.look(6), 150);
        Due.is("undo the last line", x.undo(), true);
        Due.is("149 lines", x.look(6), 149);
        Due.is("line 149 is gone", x.book(149, 0), -1);
    }

    private static void goes() {
        TwelveChain x = chain(3);
        Due.told(x, 0, "ready 500 when day=2;ready 499;leave 499;", 3);
        Due.is("goes 2", x.goes(2, 0), 0);
        Due.is("goes 3", x.goes(3, 0), 3);
        Due.is("goes 99: the day", x.goes(99, 1), 2);
        Due.is("goes 2: not all", x.goes(2, 1), -1);
        Due.is("goes 3: falls", x.goes(3, 2), 0);
        Due.is("goes 0", x.goes(0, 0), -2);
        Due.is("goes 100", x.goes(100, 0), -2);
        Due.is("goes what 3", x.goes(5, 3), -2);
        Due.is("goes what -1", x.goes(5, -1), -2);
        Due.told(x, 0, "ready 1000;leave 500 when day=1 and link=2;", 2);
        x.set(1, 0, 0);
        Due.is("goes with one OUT", x.goes(2, 2), 1);
        Due.told(x, 1, "on 0 pay 1 0 99;on 0 pay 1 0 99;on 0 pay 1 0 2;", 3);
        x.set(1, 1, 999);
        Due.is("goes with the plan", x.goes(1, 0), 3);
        Due.is("nothing stays: day", x.look(1), 0);
        Due.is("nothing stays: state", x.look(7), 0);
        Due.is("nothing stays: book", x.look(6), 0);
        Due.is("nothing stays: purse", x.of(0, 1), 0);
        Due.is("no links", new TwelveChain().goes(1, 1), -1);
        Due.is("no links, how many", new TwelveChain().goes(1, 0), 0);
    }

    private static void odds() {
        TwelveChain x = chain(3);
        x.set(3, 0, 0);
        Due.is("odds 1", x.odds(1), 300000 * 270 / 1000 * 270 / 1000);
        Due.is("odds 0", x.odds(0), -1);
        Due.is("odds 61", x.odds(61), -1);
        Due.is("odds 60", x.odds(60), 1000000);
        x.set(4, 0, 1);
        x.set(4, 1, 1);
        // 1000000, 730000, 532900, 389017, 283982 (283982.41)
        Due.is("odds 4 of one, downwards", x.odds(4), 1000000 - 283982);
        x.set(4, 2, 1);
        Due.is("odds with all ready", x.odds(1), 1000000);
        Due.told(x, 0, "leave 1000 when link=2;", 1);
        x.days(1);
        x.set(4, 2, 1);
        x.set(4, 1, 1);
        Due.is("odds with one OUT, READY", x.odds(60), 0);
        Due.is("odds without links", new TwelveChain().odds(1), 1000000);
    }

    private static void holds() {
        TwelveChain x = chain(4);
        x.set(3, 1, 5);
        x.set(3, 2, 5);
        x.set(3, 3, 9);
        x.set(4, 3, 1);
        Due.is("holds", x.holds(1, 0), 1);
        Due.is("holds: how likely", x.holds(2, 1), 277500);
        Due.is("holds 0", x.holds(0, 0), -1);
        Due.is("holds 61", x.holds(61, 0), -1);
        Due.is("holds what 2", x.holds(1, 2), -1);
        Due.is("holds what -1", x.holds(1, -1), -1);
        for (int i = 0; i < 4; i++) {
            x.set(4, i, 1);
        }
        Due.is("holds with all ready", x.holds(1, 0), -1);
        Due.is("holds with all ready", x.holds(1, 1), -1);
    }

    private static void many() {
        TwelveChain x = new TwelveChain();
        Due.is("many", x.many(900, 1), 6);
        Due.is("many of 1000", x.many(1000, 1), 60);
        Due.is("many of 0", x.many(0, 60), 0);
        Due.is("many of a half", x.many(500, 1), 1);
        Due.is("many of less", x.many(499, 1), 0);
        Due.is("many in 60 days", x.many(100, 60), 60);
        Due.is("many in 30 days", x.many(100, 30), 16);
        Due.is("many -1", x.many(-1, 1), -1);
        Due.is("many 1001", x.many(1001, 1), -1);
        Due.is("many in 0", x.many(500, 0), -1);
        Due.is("many in 61", x.many(500, 61), -1);
    }

    private static void bridges() {
        TwelveChain x = chain(5);
        // 270000 each, two of them 72900, three 19683
        Due.is("none is needed", x.bridges(1, 1434, 1), 0);
        Due.is("one in the middle", x.bridges(1, 19683, 1), 4);
        Due.is("its sum", x.bridges(2, 19683, 0), 0);
        Due.is("its sum for a day", x.bridges(1, 19683, 0), 3);
        Due.is("three", x.bridges(1, 72900, 1), 14);
        Due.is("by none", x.bridges(1, 72901, 0), -1);
        Due.is("by none, the set", x.bridges(1, 72901, 1), -1);
        Due.told(x, 0, "cost 0 when link=1 or link=3;cost 1;", 2);
        Due.is("two for nothing", x.bridges(1, 19683, 1), 10);
        Due.is("two for nothing: sum", x.bridges(1, 19683, 0), 0);
        Due.told(x, 0, "cost 0;", 1);
        Due.is("the fewest", x.bridges(1, 19683, 1), 4);
        x.set(4, 1, 1);
        // 0, 2, 3, 4 are left: bridged at 1, 2 or 3 no PART has more than three of them
        Due.is("the least set", x.bridges(1, 19683, 1), 2);
        x.set(4, 2, 1);
        Due.is("ready ones count nothing", x.bridges(1, 72900, 1), 2);
        x.bridge(3);
        Due.is("besides those that are", x.bridges(1, 72900, 1), 0);
        Due.is("bridges 0", x.bridges(0, 0, 0), -1);
        Due.is("bridges 61", x.bridges(61, 0, 0), -1);
        Due.is("bridges h -1", x.bridges(1, -1, 0), -1);
        Due.is("bridges h 1000001", x.bridges(1, 1000001, 0), -1);
        Due.is("bridges what 2", x.bridges(1, 0, 2), -1);
        Due.is("bridges what -1", x.bridges(1, 0, -1), -1);
        Due.is("no links", new TwelveChain().bridges(1, 1000000, 1), 0);
        Due.is("one link", chain(1).bridges(1, 270000, 1), 0);
        Due.is("one link, more", chain(1).bridges(1, 270001, 1), -1);
        Due.is("twelve links", chain(12).bridges(3, 300000, 1), 2046);
        Due.is("twelve links: sum", chain(12).bridges(3, 300000, 0), 90);
    }

    private static void share() {
        TwelveChain x = chain(4);
        int[] worth = {10, 5, 20, -3};
        for (int i = 0; i < 4; i++) {
            x.set(2, i, worth[i]);
        }
        int[][] due = {{0, 0, 0, 0, 0}, {1, 1, 0, 0, 0}, {13, 5, 4, 4, 0}, {14, 5, 5, 4, 0}, {17, 6, 5, 6, 0}, {35, 10, 5, 20, 0},
            {34, 10, 5, 19, 0}, {24, 10, 5, 9, 0}};
        for (int[] d : due) {
            for (int i = 0; i < 4; i++) {
                Due.is("share " + d[0] + " of " + i, x.share(d[0], i), d[i + 1]);
            }
        }
        Due.is("share more than all have", x.share(36, 0), -1);
        Due.is("share -1", x.share(-1, 0), -1);
        Due.is("share 10000", x.share(10000, 0), -1);
        Due.is("share of none", x.share(5, 4), -1);
        Due.is("share of -1", x.share(5, -1), -1);
        Due.told(x, 0, "leave 1000 when link=2;", 1);
        x.days(1);
        Due.is("who is OUT gives nothing", x.share(15, 2), 0);
        Due.is("who is OUT can't help", x.share(16, 0), -1);
        Due.is("who has MOVED gives nothing", moved().share(9, 0), 0);
        Due.is("who has not MOVED gives", moved().share(9, 4), 3);
        TwelveChain y = new TwelveChain();
        for (int i = 0; i < 11; i++) {
            y.link(1, 0, 999, 0);
        }
        Due.is("share 9999", y.share(9999, 10), 909);
        y.link(1, 0, 999, 0);
        Due.is("share 10000 though all could", y.share(10000, 10), -1);
    }

    private static void along() {
        TwelveChain x = chain(4);
        Due.is("along", x.along(0, 25, 0), 0);
        Due.is("along: three give", x.along(0, 25, 1), 3);
        Due.is("along from the third", x.along(2, 25, 0), 5);
        Due.is("along from the third: two", x.along(2, 25, 1), 2);
        Due.is("along 0", x.along(0, 0, 1), 0);
        Due.is("along 999", x.along(3, 999, 0), 989);
        Due.is("along 1000", x.along(3, 1000, 0), -1);
        Due.is("along -1", x.along(3, -1, 0), -1);
        Due.is("along from none", x.along(4, 1, 0), -1);
        Due.is("along from -1", x.along(-1, 1, 0), -1);
        Due.is("along what 2", x.along(0, 1, 2), -1);
        Due.is("along what -1", x.along(0, 1, -1), -1);
        Due.told(x, 0, "leave 1000 when link=1;give 10;", 2);
        x.days(1);
        Due.is("along, one OUT", x.along(0, 25, 0), 0);
        Due.is("along from one OUT", x.along(1, 25, 0), 5);
        Due.is("along, two MOVED", moved().along(0, 99, 1), 3);
    }

    private static void choice() {
        TwelveChain x = chain(2);
        // WORTH 40: takes 40 - n, passes (p 40 + (1000 - p) (40 - n)) / 1000 - 3
        Due.is("take", x.choice(0, 6, 500, 0), 0);
        Due.is("as good to pass on", x.choice(0, 6, 500, 1), 34);
        Due.is("pass on", x.choice(0, 8, 500, 0), 1);
        Due.is("pass on: downwards", x.choice(0, 7, 501, 1), 33);
        Due.is("pass on: how much", x.choice(0, 8, 500, 1), 33);
        Due.is("pass on what is too much", x.choice(0, 100, 500, 1), 17);
        Due.is("pull out", x.choice(0, 100, 50, 0), 2);
        Due.is("pull out: 0", x.choice(0, 100, 50, 1), 0);
        Due.is("as good to take as to pull out", x.choice(0, 40, 0, 0), 0);
        Due.is("as good to pass on as to pull out", x.choice(0, 100, 75, 0), 1);
        x.set(2, 0, -1);
        Due.told(x, 0, "cost 0;", 1);
        Due.is("pass on a worth below 0: downwards", x.choice(0, 1, 1, 0), 2);
        Due.is("choice n -1", x.choice(0, -1, 0, 0), NOT_TOLD);
        Due.is("choice n 1000", x.choice(0, 1000, 0, 0), NOT_TOLD);
        Due.is("choice p -1", x.choice(0, 0, -1, 0), NOT_TOLD);
        Due.is("choice p 1001", x.choice(0, 0, 1001, 0), NOT_TOLD);
        Due.is("choice what 2", x.choice(0, 0, 0, 2), NOT_TOLD);
        Due.is("choice what -1", x.choice(0, 0, 0, -1), NOT_TOLD);
        Due.is("choice of none", x.choice(2, 0, 0, 0), NOT_TOLD);
        Due.is("choice of -1", x.choice(-1, 0, 0, 0), NOT_TOLD);
        Due.is("choice at the bounds", x.choice(1, 999, 1000, 1), 40);
    }

    private static void bluff() {
        TwelveChain x = new TwelveChain();
        Due.is("bluff", x.bluff(500, 800, 200), 800000);
        Due.is("bluff downwards", x.bluff(333, 1, 1), 333000);
        Due.is("bluff downwards", x.bluff(1, 3, 7), 428);
        Due.is("bluff, all at most", x.bluff(1000, 1000, 1000), 1000000);
        Due.is("none threaten", x.bluff(0, 1000, 0), -1);
        Due.is("none threaten", x.bluff(1000, 0, 1000), -1);
        Due.is("none of those who bluff", x.bluff(500, 0, 1), 0);
        Due.is("hardly any threaten", x.bluff(1, 1, 0), 1000000);
        Due.is("all bluff", x.bluff(1000, 5, 0), 1000000);
        int[][] bad = {{-1, 1, 1}, {1001, 1, 0}, {1, -1, 1}, {1, 1001, 1}, {1, 1, -1}, {1, 1, 1001}};
        for (int[] b : bad) {
            Due.is("bluff that can't be", x.bluff(b[0], b[1], b[2]), -1);
        }
    }

    private static void signs() {
        TwelveChain x = chain(3);
        Due.is("signs", x.signs(0), 30);
        Due.told(x, 2, "link 0 from 20 to 40;link 1 from 0 to 35;link 2 from 5 to 15;", 3);
        // 2 at 5, 1 at 15, 0 at 25
        Due.is("signs: the minute", x.signs(0), 35);
        Due.is("signs: all", x.signs(1), 3);
        Due.is("signs: first", x.signs(10), 2);
        Due.is("signs: second", x.signs(11), 1);
        Due.is("signs: third", x.signs(12), 0);
        Due.is("signs: fourth", x.signs(13), -1);
        int[] none = {-1, 2, 9, 22, Integer.MAX_VALUE, Integer.MIN_VALUE};
        for (int what : none) {
            Due.is("signs " + what, x.signs(what), -1);
        }
        Due.told(x, 2, "link 0 from 0 to 9;link 1 from 0 to 10;link 2 from 0 to 19;", 3);
        Due.is("not all can", x.signs(0), -1);
        Due.is("one can", x.signs(1), 1);
        Due.is("no order", x.signs(10), -1);
        x.link(1, 1, 1, 1);
        Due.is("a new one can", x.signs(1), 2);
        Due.told(x, 2, "", 0);
        Due.is("without phones", x.signs(0), 40);
        for (int i = 0; i < 4; i++) {
            Due.is("the lesser one first", x.signs(10 + i), i);
        }
        x.image(true);
        Due.told(x, 2, "link 0 from 200 to 210;", 1);
        Due.is("signs late", x.signs(0), 210);
        Due.is("who waits for the last can go first", x.signs(10), 1);
        x.image(false);
        Due.is("signs as in the image", x.signs(0), 40);
        x = chain(12);
        Due.is("twelve sign", x.signs(0), 120);
        Due.is("the twelfth", x.signs(21), 11);
        Due.is("no links", new TwelveChain().signs(0), 0);
        Due.is("no links, first", new TwelveChain().signs(10), -1);
    }

    private static void money() {
        TwelveChain x = chain(3);
        x.set(3, 1, 9);
        // 11, 30, 41 minutes
        Due.is("money", x.money(0, 10), -1);
        Due.is("money", x.money(0, 11), 0);
        Due.is("money", x.money(5, 34), 0);
        Due.is("money", x.money(5, 35), 1);
        Due.is("money", x.money(559, 600), 2);
        Due.is("money", x.money(560, 600), 1);
        Due.is("money t -1", x.money(-1, 600), -1);
        Due.is("money t 601", x.money(601, 600), -1);
        Due.is("money m -1", x.money(0, -1), -1);
        Due.is("money m 601", x.money(0, 601), -1);
    }

    private static void ill() {
        TwelveChain x = chain(4);
        Due.told(x, 3, "day 3 link 0;day 9 link 0;day 5 link 1;day 999 link 3;", 4);
        Due.is("ill", x.ill(3, 1), 14);
        Due.is("ill", x.ill(4, 5), 13);
        Due.is("ill", x.ill(4, 6), 12);
        Due.is("ill", x.ill(970, 30), 7);
        Due.is("ill", x.ill(999, 30), 7);
        Due.is("ill a -1", x.ill(-1, 1), -1);
        Due.is("ill a 1000", x.ill(1000, 1), -1);
        Due.is("ill k 0", x.ill(0, 0), -1);
        Due.is("ill k 31", x.ill(0, 31), -1);
        Due.is("ill of none", new TwelveChain().ill(0, 1), 0);
    }

    private static void wrote() {
        TwelveChain x = chain(4);
        Due.is("without records", x.wrote(), 0);
        Due.told(x, 3, "day 30 link 0;day 20 link 1;day 20 link 1;day 99 link 2;", 4);
        Due.is("half have written", x.wrote(), 30);
        Due.told(x, 3, "day 100 link 0;day 99 link 1;day 100 link 2;", 3);
        Due.is("one has by day 99", x.wrote(), 99);
        Due.told(x, 3, "day 100 link 0;", 1);
        Due.is("none has by then", x.wrote(), 0);
        Due.is("one link", chain(1).wrote(), -1);
        Due.is("no links", chain(0).wrote(), -1);
        Due.is("two links", chain(2).wrote(), 0);
    }

    private static void slowest() {
        TwelveChain x = chain(3);
        Due.is("of several the least", x.slowest(), 0);
        x.set(3, 1, 5);
        x.set(4, 1, 1);
        Due.is("a ready one, too", x.slowest(), 1);
        Due.told(x, 0, "ready 9-link when day=0;", 1);
        Due.is("by the law", x.slowest(), 2);
        x = moved();
        Due.told(x, 0, "ready link;", 1);
        Due.is("not those moved", x.slowest(), 2);
        for (int i = 2; i < 5; i++) {
            x.set(4, i, 1);
        }
        x.days(1);
        Due.is("all moved", x.slowest(), -1);
    }

    private static void game() {
        TwelveChain x = chain(3);
        int[][] due = {{1, 1, 0, -1, -1}, {5, 1, 0, -1, -1}, {1, 2, 4, 1, 1}, {4, 8, 0, -1, -1}, {7, 0, 0, 0, 3}, {9, 9, 9, 0, 1},
            {5, 6, 0, 0, 3}, {4, 1, 0, 0, 3}, {2, 3, 3, 0, 2}, {0, 0, 0, -1, -1}};
        for (int[] d : due) {
            for (int i = 0; i < 3; i++) {
                x.set(3, i, d[i]);
            }
            Due.is("game " + d[0] + " " + d[1] + " " + d[2], x.game(0), d[3]);
            Due.is("game " + d[0] + " " + d[1] + " " + d[2] + ": how many", x.game(1), d[4]);
        }
        Due.is("game what 2", x.game(2), -1);
        Due.is("game what -1", x.game(-1), -1);
        x = moved();
        Due.is("not those moved", x.game(0), 2);
        Due.is("no links", new TwelveChain().game(0), -1);
    }

    private static void soon() {
        TwelveChain x = chain(2);
        int d = 1;
        while (x.odds(d) < 900000) {
            d++;
        }
        Due.is("soon", x.soon(900000), d);
        Due.is("soon exactly", x.soon(x.odds(d)), d);
        Due.is("soon one more", x.soon(x.odds(d) + 1), d + 1);
        Due.is("soon 0", x.soon(0), 1);
        Due.is("by what is left downwards", x.soon(1000000) > 1, true);
        Due.told(x, 0, "ready 1;", 1);
        Due.is("by 60", x.soon(x.odds(60)), 60);
        Due.is("not by 60", x.soon(x.odds(60) + 1), -1);
        Due.is("soon -1", x.soon(-1), -1);
        Due.is("soon 1000001", x.soon(1000001), -1);
        Due.is("soon without links", new TwelveChain().soon(1000000), 1);
    }

    private static void hurry() {
        TwelveChain x = chain(3);
        x.set(3, 1, 8);
        // 270, 60, 270 of a thousand; 300 without being slow
        Due.is("hurry", x.hurry(1, 0), 1);
        Due.is("hurry: odds", x.hurry(1, 1), 21870);
        x.set(4, 1, 1);
        Due.is("of several the least", x.hurry(1, 0), 0);
        Due.is("its odds", x.hurry(1, 1), 81000);
        Due.is("slow stays", x.of(1, 3), 8);
        Due.told(x, 0, "ready 100*slow+10*links;", 1);
        Due.is("the ready one makes no odds", x.hurry(1, 0), 1);
        Due.is("hurry d 0", x.hurry(0, 0), -1);
        Due.is("hurry d 61", x.hurry(61, 1), -1);
        Due.is("hurry what 2", x.hurry(1, 2), -1);
        Due.is("hurry what -1", x.hurry(1, -1), -1);
        Due.is("hurry without links", new TwelveChain().hurry(1, 0), -1);
        Due.is("hurry without links: odds", new TwelveChain().hurry(1, 1), -1);
    }

    private static void split() {
        TwelveChain x = chain(6);
        // 1, 2, 3 or 4: the PARTS have 2 and 5, 3 and 4, 4 and 3, 5 and 2
        Due.is("split", x.split(1, 0), 2);
        Due.is("split: the least odds", x.split(1, 1), 5314);
        x.set(4, 0, 1);
        Due.is("split by what is left", x.split(1, 0), 3);
        x.bridge(3);
        Due.is("besides a bridged one", x.split(1, 0), 1);
        Due.is("besides a bridged one: odds", x.split(1, 1), 19683);
        Due.is("split d 0", x.split(0, 0), -1);
        Due.is("split d 61", x.split(61, 0), -1);
        Due.is("split what 2", x.split(1, 2), -1);
        Due.is("split what -1", x.split(1, -1), -1);
        Due.is("none can be", chain(2).split(1, 0), -1);
        Due.is("none can be: odds", chain(2).split(1, 1), -1);
        Due.is("no links", chain(0).split(1, 1), -1);
    }

    private static void gap() {
        TwelveChain x = new TwelveChain();
        x.link(100, 150, 0, 0);
        x.link(200, 99, 0, 0);
        x.link(300, -999, 0, 0);
        Due.is("the first's price counts nothing", x.gap(0), 50);
        Due.is("gap", x.gap(1), 1);
        Due.is("the last lacks nothing", x.gap(2), 0);
        x.set(1, 1, 100);
        Due.is("just enough", x.gap(1), 0);
        x.set(1, 1, 500);
        Due.is("more than enough", x.gap(1), 0);
        Due.is("gap of none", x.gap(3), -1);
        Due.is("gap of -1", x.gap(-1), -1);
        Due.is("one link", chain(1).gap(0), 0);
    }

    private static void runs() {
        TwelveChain x = chain(6);
        x.set(1, 2, -999);
        Due.is("runs: 0 can't, 2 can't", x.runs(0), 3);
        Due.is("runs: first", x.runs(1), 3);
        x.set(1, 0, 999);
        x.set(1, 5, -999);
        x.set(1, 4, -999);
        Due.is("runs: two", x.runs(0), 2);
        Due.is("of several the least", x.runs(1), 0);
        Due.is("poorest of all that can", x.runs(2), 5);
        x.set(1, 5, 200);
        Due.is("poorest, of several the least", x.runs(2), 1);
        Due.is("runs what 3", x.runs(3), -1);
        Due.is("runs what -1", x.runs(-1), -1);
        x = new TwelveChain();
        Due.is("none: how long", x.runs(0), 0);
        Due.is("none: first", x.runs(1), -1);
        Due.is("none: poorest", x.runs(2), -1);
        x = moved();
        Due.is("not those moved", x.runs(1), 2);
        Due.is("not those moved: how long", x.runs(0), 3);
        Due.told(x, 0, "leave 1000 when link=3;", 1);
        x.days(1);
        Due.is("not those out", x.runs(0), 1);
    }

    private static void undo() {
        TwelveChain x = chain(3);
        Due.told(x, 0, "ready 0;leave 1000 when day=5 and link=1;", 2);
        x.state(9);
        x.days(6);
        x.join(1);
        x.paper(0);
        x.pay(0, 1, 5);
        x.bridge(1);
        x.ask(0, 5);
        Due.is("six are kept", x.look(12), 6);
        Due.told(x, 0, "ready 1;", 1);
        Due.told(x, 2, "link 0 from 1 to 2;", 1);
        Due.told(x, 3, "day 1 link 1;", 1);
        x.image(true);
        x.goes(3, 0);
        Due.faulty(x, 1, "on", 1, 2);
        Due.is("texts but a plan and an image taken forget nothing", x.look(12), 6);
        int[] lines = {5, 4, 3, 2, 1, 0};
        for (int i = 0; i < 6; i++) {
            Due.is("undo " + i, x.undo(), true);
            Due.is("lines behind undo " + i, x.look(6), lines[i]);
        }
        Due.is("the asking is undone", x.of(1, 0), 200);
        Due.is("the bridge is undone", x.look(4), 0);
        Due.is("the paying is undone", x.of(0, 1), 200);
        Due.is("the paper is undone", x.of(0, 4), 0);
        Due.is("the day is undone", x.look(1), 5);
        Due.is("the fall is undone", x.look(2), 0);
        Due.is("the law is not", x.of(0, 8), 1);
        Due.is("no more", x.undo(), false);
        x = chain(3);
        x.state(9);
        x.days(2);
        int behindOne = 0;
        TwelveChain y = chain(3);
        y.state(9);
        y.days(1);
        behindOne = y.look(7);
        x.undo();
        Due.is("days are undone one by one", x.look(1), 1);
        Due.is("with the state", x.look(7), behindOne);
        x.undo();
        Due.is("state at first", x.look(7), 9);
        x.paper(0);
        Due.told(x, 1, "", 0);
        Due.is("a plan told forgets", x.undo(), false);
    }

    private static void image() {
        TwelveChain x = chain(3);
        Due.told(x, 0, "ready 0;give 7;", 2);
        Due.told(x, 1, "on 9 paper 0;", 1);
        Due.told(x, 2, "link 1 from 3 to 33;", 1);
        Due.told(x, 3, "day 3 link 2;", 1);
        x.state(4);
        x.paper(0);
        x.bridge(1);
        Due.is("taken", x.image(true), true);
        x.undo();
        x.pay(0, 1, 50);
        x.days(2);
        x.link(9, 9, 9, 9);
        Due.told(x, 0, "", 0);
        Due.told(x, 1, "", 0);
        Due.told(x, 2, "", 0);
        Due.told(x, 3, "day 1 link 1;day 1 link 1;", 2);
        for (int time = 0; time < 2; time++) {
            x.paper(2);
            Due.put(x, "give 77;");
            Due.is("gone back", x.image(false), true);
            int[] look = {3, 0, 0, 0, 2, 2, 2, 4, 2, 1, 1, 1, 0};
            for (int what = 0; what < look.length; what++) {
                Due.is("image: look " + what, x.look(what), look[what]);
            }
            Due.is("image: purse", x.of(0, 1), 200);
            Due.is("image: give", x.of(0, 10), 7);
            Due.is("image: ready", x.of(0, 4), 1);
            Due.is("image: phone", x.phone(1, 1), 33);
            Due.is("image: record", x.phone(2, 2), 1);
            Due.is("image: the book", x.book(1, 1), 1);
            Due.is("image: nothing can be undone", x.undo(), false);
            Due.is("the tape is as it is", x.text(0), 1);
            Due.is("and tells", x.of(0, 10), 77);
            x.ask(0, 20);
        }
        Due.faulty(x, 0, "give", 1, 4);
        x.image(false);
        Due.is("fault() is as it is", x.fault(1), 4);
    }

    private static void look() {
        TwelveChain x = moved();
        int[] due = {5, 1, 0, 3, 12, 3, 7, 0, 1, 0, 0, 0, 6};
        for (int what = 0; what < due.length; what++) {
            if (what != 7) {
                Due.is("look " + what, x.look(what), due[what]);
            }
        }
        Due.is("look 13", x.look(13), -1);
        Due.is("look -1", x.look(-1), -1);
        Due.is("one link is one part", chain(1).look(5), 1);
        x.state(123);
        Due.is("look 7", x.look(7), 123);
    }
}
