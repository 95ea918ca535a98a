/** What the TEXTS may say, and where their FAULTS are. */
public final class TextsTest {
    public static void main(String[] args) {
        law();
        lawValues();
        lawFaults();
        depth();
        plan();
        phones();
        records();
        manyLines();
        Due.end("TextsTest");
    }

    private static TwelveChain chain() {
        TwelveChain x = new TwelveChain();
        x.link(100, 50, 40, 1);
        x.link(200, -7, 60, 2);
        x.link(300, 8, -9, 3);
        return x;
    }

    private static void law() {
        TwelveChain x = chain();
        Due.told(x, 0, "ready 10;leave 20;give 30;cost 40;", 4);
        for (int what = 8; what < 12; what++) {
            Due.is("word " + what, x.of(0, what), 10 * (what - 7));
        }
        // the first line whose B is so, or that has none
        Due.told(x, 0, "give 1 when link=0;give 2 when link<2;give 3;give 4;", 4);
        for (int i = 0; i < 3; i++) {
            Due.is("line for link " + i, x.of(i, 10), i + 1);
        }
        Due.told(x, 0, "ready 1 when 1=2;leave 1 when 1=2;give 1 when 1=2;cost 1 when 1=2;", 4);
        int[] due = {240, 0, 15, 3};
        for (int what = 8; what < 12; what++) {
            Due.is("no line is so: " + what, x.of(1, what), due[what - 8]);
        }
        Due.told(x, 0, "ready 1001;leave 1001;give 1000;cost 100;", 4);
        int[] most = {1000, 1000, 999, 99};
        for (int what = 8; what < 12; what++) {
            Due.is("held at most: " + what, x.of(0, what), most[what - 8]);
        }
        Due.told(x, 0, "ready 0-1;leave 0-1;give 0-1;cost 0-1;", 4);
        for (int what = 8; what < 12; what++) {
            Due.is("held at least: " + what, x.of(0, what), 0);
        }
    }

    private static void give(TwelveChain x, String e, int due) {
        Due.told(x, 0, "give " + e + ";", 1);
        Due.is(e, x.of(1, 10), due);
    }

    private static void so(TwelveChain x, String b, boolean due) {
        Due.told(x, 0, "give 1 when " + b + ";give 0;", 2);
        Due.is(b, x.of(1, 10), due ? 1 : 0);
    }

    private static void lawValues() {
        TwelveChain x = chain();
        x.days(4);
        x.set(4, 0, 1);
        x.set(4, 1, 0);
        x.set(4, 2, 0);
        give(x, "link", 1);
        give(x, "price", 200);
        give(x, "0-purse", 7);
        give(x, "worth", 60);
        give(x, "slow", 2);
        give(x, "day", 4);
        give(x, "links", 3);
        give(x, "bridged", 0);
        give(x, "lacks", 2);
        x.bridge(1);
        give(x, "bridged", 1);
        give(x, "lacks", 2);
        give(x, "2+3*4", 14);
        give(x, "20-3-4", 13);
        give(x, "2*3+4*5-6/4", 25);
        give(x, "7/2*2", 6);
        give(x, "10-purse/2", 13);
        give(x, "9999*9999*9999-9999*9999*9999+5", 5);
        // 9999 * 9999 * 22 is 2199560022, which wraps to -2095407274
        give(x, "0-9999*9999*22/9999/9999", 20);
        give(x, "0001", 1);
        so(x, "1<2", true);
        so(x, "2<2", false);
        so(x, "2>2", false);
        so(x, "3>2", true);
        so(x, "2=2", true);
        so(x, "not 2=2", false);
        so(x, "not not 2=2", true);
        so(x, "not 1=2 and 1=2", false);
        so(x, "not (1=2 and 1=2)", true);
        so(x, "1=1 or 1=1 and 1=2", true);
        so(x, "(1=1 or 1=1) and 1=2", false);
        so(x, "1=2 and 1=1 or 1=1", true);
        so(x, "1=2 or 1=2 or 3=3", true);
        so(x, "1=1 and 2=2 and 3=4", false);
        so(x, "1+1=2*1", true);
    }

    private static void lawFaults() {
        TwelveChain x = chain();
        Due.told(x, 0, "cost 5;", 1);
        Due.faulty(x, 0, "ready", 1, 5);
        Due.faulty(x, 0, "ready  \n", 1, 8);
        Due.faulty(x, 0, ";", 1, 0);
        Due.faulty(x, 0, " link 5;", 1, 1);
        Due.faulty(x, 0, "Ready 5;", 1, 0);
        for (String letter : new String[] {"a", "z", "A", "Z"}) {
            Due.faulty(x, 0, "ready" + letter + " 5;", 1, 0);
        }
        for (String sign : new String[] {"@", "[", "`", "{", "_", "\u00e9", "0"}) {
            Due.faulty(x, 0, "ready" + sign + " 5;", 1, sign.equals("0") ? 7 : 5);
        }
        Due.faulty(x, 0, "give 5", 1, 6);
        Due.faulty(x, 0, "give 5 5;", 1, 7);
        Due.faulty(x, 0, "give 12345;", 1, 5);
        Due.faulty(x, 0, "give -5;", 1, 5);
        Due.faulty(x, 0, "give (5);", 1, 5);
        Due.faulty(x, 0, "give 5.;", 1, 6);
        Due.faulty(x, 0, "give 5\t;", 1, 6);
        Due.faulty(x, 0, "give 5\u00e9;", 1, 6);
        Due.faulty(x, 0, "give on;", 1, 5);
        Due.faulty(x, 0, "give 1+;", 1, 7);
        Due.faulty(x, 0, "give 1*;", 1, 7);
        Due.faulty(x, 0, "give 6/link;", 1, 7);
        Due.faulty(x, 0, "give 6/0;", 2, 7);
        Due.faulty(x, 0, "give 6/0000;", 2, 7);
        Due.faulty(x, 0, "give 6/ 0 !", 2, 8);
        Due.faulty(x, 0, "give 6/00000;", 1, 7);
        Due.faulty(x, 0, "give 1 when;", 1, 11);
        Due.faulty(x, 0, "give 1 when 5;", 1, 13);
        Due.faulty(x, 0, "give 1 when 5<;", 1, 14);
        Due.faulty(x, 0, "give 1 when (5<6;", 1, 16);
        Due.faulty(x, 0, "give 1 when 5<6);", 1, 15);
        Due.faulty(x, 0, "give 1 when (5)<6;", 1, 14);
        Due.faulty(x, 0, "give 1 when 5<6<7;", 1, 15);
        Due.faulty(x, 0, "give 1 when 5<6 and;", 1, 19);
        Due.faulty(x, 0, "give 1 when 5<6 or or;", 1, 19);
        Due.faulty(x, 0, "give 1 when 5<6 not 6<7;", 1, 16);
        Due.faulty(x, 0, "give 1 when 5<6 when 6<7;", 1, 16);
        Due.faulty(x, 0, "give 1 when not;", 1, 15);
        Due.is("the law stays as it was", x.of(0, 11), 5);
        Due.told(x, 0, "give5when1<2;", 1);
        Due.told(x, 0, "\n give\n5 ; ", 1);
    }

    private static void depth() {
        TwelveChain x = chain();
        Due.told(x, 0, "give 1 when ((((((((1=1))))))));", 1);
        Due.is("eight deep", x.of(0, 10), 1);
        Due.told(x, 0, "give 1 when not(not(not(not(1=1))));", 1);
        Due.is("eight deep with not", x.of(0, 10), 1);
        Due.told(x, 0, "give 1 when not(not(not(not(1=1))))and not not not not not not not not 1=1;", 1);
        Due.is("what is closed counts no more", x.of(0, 10), 1);
        Due.faulty(x, 0, "give 1 when (((((((((1=1)))))))));", 3, 20);
        Due.faulty(x, 0, "give 1 when not(not(not(not(not 1=1))));", 3, 28);
        Due.faulty(x, 0, "give 1 when ((((((((1=1)))))))) and (((((((((1=1", 3, 44);
        Due.faulty(x, 0, "give 1 when ((((((((1=1 and not 1=1", 3, 28);
        StringBuilder s = new StringBuilder("give 1 when ");
        for (int i = 0; i < 388; i++) {
            s.append('(');
        }
        Due.faulty(x, 0, s.toString(), 3, 20);
    }

    private static void plan() {
        TwelveChain x = chain();
        Due.told(x, 1, "on 0 ask 0 1;on 999 ask 2 99;on 5 bridge 0;on 5 pay 0 2 99;on 5 paper 2;", 5);
        Due.faulty(x, 1, "on 1000 ask 0 1;", 2, 3);
        Due.faulty(x, 1, "on 10000 ask 0 1;", 1, 3);
        Due.faulty(x, 1, "on ask 0 1;", 1, 3);
        Due.faulty(x, 1, "on 5 ask 3 1;", 2, 9);
        Due.faulty(x, 1, "on 5 ask 0 0;", 2, 11);
        Due.faulty(x, 1, "on 5 ask 0 100;", 2, 11);
        Due.faulty(x, 1, "on 5 ask 0;", 1, 10);
        Due.faulty(x, 1, "on 5 ask;", 1, 8);
        Due.faulty(x, 1, "on 5 link 0;", 1, 5);
        Due.faulty(x, 1, "on 5 from 0;", 1, 5);
        Due.faulty(x, 1, "on 5 bridge 3;", 2, 12);
        Due.faulty(x, 1, "on 5 bridge 0 1;", 1, 14);
        Due.faulty(x, 1, "on 5 pay 3 0 1;", 2, 9);
        Due.faulty(x, 1, "on 5 pay 0 3 1;", 2, 11);
        Due.faulty(x, 1, "on 5 pay 1 1 1;", 2, 11);
        Due.faulty(x, 1, "on 5 pay 1 01 1;", 2, 11);
        Due.faulty(x, 1, "on 5 pay 1 0 100;", 2, 13);
        Due.faulty(x, 1, "on 5 pay 1 0 0;", 2, 13);
        Due.faulty(x, 1, "on 5 pay 1 0;", 1, 12);
        Due.faulty(x, 1, "on 5 paper 3;", 2, 11);
        Due.faulty(x, 1, "on 5 paper 1", 1, 12);
        Due.faulty(x, 1, "day 5 link 1;", 1, 0);
        Due.is("the plan stays as it was", x.look(9), 5);
        TwelveChain y = new TwelveChain();
        Due.faulty(y, 1, "on 5 paper 0;", 2, 11);
        Due.told(y, 1, " \n ", 0);
    }

    private static void phones() {
        TwelveChain x = chain();
        Due.told(x, 2, "link 0 from 0 to 1;link 2 from 239 to 240;", 2);
        Due.faulty(x, 2, "link 3 from 0 to 1;", 2, 5);
        Due.faulty(x, 2, "link 0 from 241 to 242;", 2, 12);
        Due.faulty(x, 2, "link 0 from 240 to 240;", 2, 19);
        Due.faulty(x, 2, "link 0 from 5 to 241;", 2, 17);
        Due.faulty(x, 2, "link 0 from 5 to 5;", 2, 17);
        Due.faulty(x, 2, "link 0 from 5 to 4;", 2, 17);
        Due.faulty(x, 2, "link 0 to 5 from 4;", 1, 7);
        Due.faulty(x, 2, "link 0 from 5 4;", 1, 14);
        Due.faulty(x, 2, "link 0 from 5 to;", 1, 16);
        Due.faulty(x, 2, "links 0 from 5 to 6;", 1, 0);
        Due.is("phones stay as they were", x.phone(2, 0), 239);
    }

    private static void records() {
        TwelveChain x = chain();
        Due.told(x, 3, "day 0 link 0;day 999 link 2;day 999 link 2;", 3);
        Due.faulty(x, 3, "day 1000 link 0;", 2, 4);
        Due.faulty(x, 3, "day 5 link 3;", 2, 11);
        Due.faulty(x, 3, "day 5 link;", 1, 10);
        Due.faulty(x, 3, "day 5 links 0;", 1, 6);
        Due.faulty(x, 3, "day link 0;", 1, 4);
        Due.faulty(x, 3, "day 5 link 0,", 1, 12);
        Due.faulty(x, 3, "on 5 link 0;", 1, 0);
        Due.is("records stay as they were", x.phone(2, 2), 2);
    }

    private static void manyLines() {
        String[] line = {"leave 1;", "on 1 paper 0;", "link 0 from 0 to 1;", "day 1 link 0;"};
        for (int k = 0; k < 4; k++) {
            TwelveChain x = chain();
            String all = line[k].repeat(16);
            Due.told(x, k, all, 16);
            Due.is("lines of text " + k, x.look(8 + k), 16);
            Due.faulty(x, k, all + line[k], 3, all.length());
            Due.faulty(x, k, all + " " + line[k].charAt(0), 1, all.length() + 1);
            Due.faulty(x, k, all + ";", 1, all.length());
            Due.is("lines of text " + k + " stay", x.look(8 + k), 16);
        }
    }
}
