/** The bounds that "Terms" 2 names, sentence by sentence: at the bound and just beyond it. */
public final class TextBoundsTest {
    private static final String[] WORDS = {"ready", "leave", "give", "cost", "when", "or", "and", "not", "link", "price", "purse", "worth",
        "slow", "day", "links", "bridged", "lacks", "on", "ask", "bridge", "pay", "paper", "from", "to"};

    public static void main(String[] args) {
        emptyAtFirst();
        emptyTape();
        fullTape();
        highestFirst();
        cutTape();
        numbers();
        letters();
        blanks();
        keywords();
        sixteenLines();
        eightOpen();
        firstByItsPlace();
        atTheEnd();
        planNumbers();
        phoneNumbers();
        recordNumbers();
        linksThere();
        untold();
        held();
        wrapped();
        parts();
        names();
        firstLine();
        joined();
        staysAsItWas();
        Due.end("TextBoundsTest");
    }

    private static TwelveChain chain(int links) {
        TwelveChain x = new TwelveChain();
        for (int i = 0; i < links; i++) {
            x.link(100, 0, 40, 1);
        }
        return x;
    }

    private static void gives(TwelveChain x, String e, int due) {
        Due.told(x, 0, "give " + e + ";", 1);
        Due.is(e, x.of(0, 10), due);
    }

    private static void so(TwelveChain x, String b, boolean due) {
        Due.told(x, 0, "give 1 when " + b + ";give 0;", 2);
        Due.is(b, x.of(0, 10), due ? 1 : 0);
    }

    /** "TEXTS (empty at first)" */
    private static void emptyAtFirst() {
        TwelveChain x = chain(1);
        for (int k = 0; k < 4; k++) {
            Due.is("lines of text " + k + " at first", x.look(8 + k), 0);
        }
        Due.is("from at first", x.phone(0, 0), 0);
        Due.is("to at first", x.phone(0, 1), 240);
        Due.is("records at first", x.phone(0, 2), 0);
        Due.is("fault at first", x.fault(0), 0);
        Due.is("its place at first", x.fault(1), -1);
    }

    /** An empty TAPE is a TEXT without lines; so are blanks alone. */
    private static void emptyTape() {
        String[] line = {"cost 9;", "on 0 paper 0;", "link 0 from 3 to 4;", "day 0 link 0;"};
        String[] empty = {"", " ", "\n", " \n \n  ", " ".repeat(399), "\n".repeat(400)};
        for (int k = 0; k < 4; k++) {
            for (String s : empty) {
                TwelveChain x = chain(1);
                Due.told(x, k, line[k], 1);
                Due.told(x, k, s, 0);
                Due.is("no lines of text " + k, x.look(8 + k), 0);
                Due.is("cost", x.of(0, 11), 3);
                Due.is("from", x.phone(0, 0), 0);
                Due.is("records", x.phone(0, 2), 0);
                Due.tell(x, 0, "ready 0;");
                x.days(1);
                Due.is("nothing planned", x.look(6), 0);
            }
        }
    }

    /** "NONE, and nothing comes, if there would be more than 400" */
    private static void fullTape() {
        TwelveChain x = chain(1);
        String most = "give1" + "+1".repeat(197) + ";";
        Due.is("400 bytes", most.length(), 400);
        Due.told(x, 0, most, 1);
        Due.is("give of 198 ones", x.of(0, 10), 198);
        Due.faulty(x, 0, most.substring(0, 399) + "+", 1, 400);
        Due.faulty(x, 0, most.substring(0, 399) + "1", 1, 400);
        Due.faulty(x, 0, most.substring(0, 399) + "!", 1, 399);
        Due.faulty(x, 0, most.substring(0, 399) + ")", 1, 399);
        Due.faulty(x, 0, "(".repeat(400), 1, 0);
        Due.faulty(x, 0, ";".repeat(400), 1, 0);
        Due.faulty(x, 0, "give1" + "*".repeat(395), 1, 6);
        Due.faulty(x, 0, "give " + "1".repeat(395), 1, 5);
        Due.faulty(x, 0, "give" + "e".repeat(396), 1, 0);
        Due.faulty(x, 0, " ".repeat(396) + "give", 1, 400);
        Due.faulty(x, 0, "cost 3;" + " ".repeat(392) + "x", 1, 399);
        Due.told(x, 0, " ".repeat(392) + "cost 10;", 1);
        Due.is("cost at the very end", x.of(0, 11), 10);
        Due.told(x, 0, "leave1when " + "not ".repeat(8) + "1=1 or 2=2" + " or 1=1".repeat(49) + ";", 1);
        Due.is("a long condition", x.of(0, 9), 1);
        Due.told(x, 0, "leave1when(" + "((2=1 and 1=1)or(1=2 and 2=2)or(1=1 and(2=2 and(3=3 and(4=4 and(5=5 and(6=6)))))))" + ");", 1);
        Due.is("deep on the right", x.of(0, 9), 1);
        for (int bytes = 380; bytes <= 381; bytes++) {
            TwelveChain y = chain(1);
            Due.put(y, "x".repeat(bytes));
            Due.is("feed to " + (bytes + 20), y.feed(0x20202020, 0, 0, 0, 0), bytes == 380 ? 400 : -1);
            Seen.tape("behind it", y, bytes == 380 ? 400 : 381);
            Due.is("feed once more", y.feed(0, 0, 0, 0, 0), -1);
        }
        TwelveChain z = chain(1);
        for (int i = 1; i <= 20; i++) {
            Due.is("feed " + i, z.feed(i, i, i, i, i), 20 * i);
        }
        Due.is("feed 21", z.feed(1, 1, 1, 1, 1), -1);
        Due.is("end 400", z.end(400), true);
        Due.is("end 401", z.end(401), false);
        Due.is("text of 400 zeroes and ones", z.text(0), -1);
        Due.is("its fault is at 0", z.fault(1), 0);
        Due.is("there is room again", z.feed(0, 0, 0, 0, 0), 20);
    }

    /** "Twenty bytes come behind the TAPE, of each number the highest first" */
    private static void highestFirst() {
        TwelveChain x = chain(1);
        // give, " 1*2", "+3*4", "+5*6", "+70;"
        Due.is("feed", x.feed(0x67697665, 0x20312a32, 0x2b332a34, 0x2b352a36, 0x2b37303b), 20);
        Due.is("text", x.text(0), 1);
        Due.is("give", x.of(0, 10), 114);
        // a byte above 127 is no blank, letter or digit, wherever it stands
        int[] high = {0xa0202020, 0x20a02020, 0x2020a020, 0x202020a0, 0x80000000, 0x20ff2020, 0x208a2020, 0x2020b120};
        int[] place = {0, 1, 2, 3, 0, 1, 1, 2};
        for (int i = 0; i < high.length; i++) {
            x.feed(high[i], 0x20202020, 0x20202020, 0x20202020, 0x20202020);
            Due.is("text of a high byte " + i, x.text(0), -1);
            Due.is("its fault " + i, x.fault(0), 1);
            Due.is("its place " + i, x.fault(1), place[i]);
        }
    }

    /** "The TAPE has its first n bytes alone" */
    private static void cutTape() {
        String text = "give 1234; cost 7;";
        int[] lines = new int[text.length() + 1];
        for (int n = 0; n <= text.length(); n++) {
            lines[n] = n == 0 ? 0 : n == 10 || n == 11 ? 1 : n == 18 ? 2 : -1;
            TwelveChain x = chain(1);
            Due.put(x, text);
            Due.is("end " + n, x.end(n), true);
            Due.is("end one more", x.end(n + 1), false);
            Due.is("the first " + n + " bytes", x.text(0), lines[n]);
            if (lines[n] < 0) {
                Due.is("the first " + n + " bytes: fault", x.fault(0), 1);
                boolean cutWord = n < 4 || n > 11 && n < 15;
                Due.is("the first " + n + " bytes: place", x.fault(1), cutWord ? n < 4 ? 0 : 11 : n);
            }
        }
        // a fifth digit that was cut off is no digit of it any more, nor a letter of a word
        TwelveChain cut = chain(1);
        Due.put(cut, "give 12345;");
        cut.end(9);
        Due.is("the fifth digit is cut off", cut.text(0), -1);
        Due.is("its fault is at the end", cut.fault(1), 9);
        Due.put(cut, "give 1 when 1=1 andlink=0;");
        cut.end(19);
        Due.is("the letters behind and are cut off", cut.text(0), -1);
        Due.is("their fault is at the end", cut.fault(1), 19);
        // what comes behind an end() stands where it was cut, and what was cut is gone
        TwelveChain x = chain(1);
        Due.put(x, "cost 9;cost 8;");
        x.end(5);
        Due.is("feed behind it", x.feed(0x373b2020, 0x20202020, 0x20202020, 0x20202020, 0x20202020), 25);
        Due.is("text", x.text(0), 1);
        Due.is("cost", x.of(0, 11), 7);
    }

    /** "digits as many as stand together NUMBERS of 1 to 4 digits or none" */
    private static void numbers() {
        TwelveChain x = chain(1);
        String[] good = {"0", "9", "10", "99", "999", "0000", "0009", "0999"};
        int[] due = {0, 9, 10, 99, 999, 0, 9, 999};
        for (int i = 0; i < good.length; i++) {
            gives(x, good[i], due[i]);
        }
        gives(x, "9999-9000", 999);
        String[] none = {"00000", "10000", "00009", "99999", "123456789", "4294967297", "00000000000000000001"};
        for (String n : none) {
            Due.faulty(x, 0, "give " + n + ";", 1, 5);
            Due.faulty(x, 0, "give 1/" + n + ";", 1, 7);
            Due.faulty(x, 1, "on " + n + " paper 0;", 1, 3);
            Due.faulty(x, 3, "day 1 link " + n + ";", 1, 11);
            Due.faulty(x, 2, "link 0 from 1 to " + n + ";", 1, 17);
        }
        // digits that do not stand together are two NUMBERS
        Due.faulty(x, 0, "give 1 2;", 1, 7);
        Due.faulty(x, 0, "give 1\n2;", 1, 7);
        Due.faulty(x, 0, "give 1a;", 1, 6);
        Due.faulty(x, 0, "give 1.5;", 1, 6);
        Due.told(x, 0, "give 1when 1=1;", 1);
        Due.told(x, 1, "on 1paper 0;", 1);
    }

    /** "letters as many as stand together are KEYWORDS ... or none" */
    private static void letters() {
        TwelveChain x = chain(1);
        String[] none = {"r", "read", "readyy", "readyready", "READY", "Ready", "readY", "givecost", "z", "aa", "cos", "xcost",
            "lea", "giver", "gi", "a".repeat(300)};
        for (String w : none) {
            Due.faulty(x, 0, w + " 1;", 1, 0);
            Due.faulty(x, 0, "cost 1;" + w + " 1;", 1, 7);
        }
        x = chain(1);
        String[] noName = {"lin", "linkss", "lack", "bridge", "bridgedd", "pric", "days", "to", "from", "on", "ask", "pay", "paper", "ready",
            "when", "not", "and", "or", "x"};
        for (String w : noName) {
            Due.faulty(x, 0, "give " + w + ";", 1, 5);
            Due.faulty(x, 0, "give 1+" + w + ";", 1, 7);
            Due.faulty(x, 0, "give 1*" + w + ";", 1, 7);
        }
        x = chain(1);
        Due.told(x, 0, "give link+links;", 1);
        Due.is("link and links", x.of(0, 10), 1);
        Due.faulty(x, 0, "give 1 when 1=1 andnot 1=1;", 1, 16);
        Due.faulty(x, 0, "give 1 when notnot 1=1;", 1, 12);
        Due.faulty(x, 0, "give 1 when nott 1=1;", 1, 12);
        Due.faulty(x, 0, "give 1 whe 1=1;", 1, 7);
        Due.faulty(x, 0, "give 1 whenn 1=1;", 1, 7);
        Due.faulty(x, 0, "give1 w hen 1=1;", 1, 6);
        Due.faulty(x, 2, "link 0 from 1 t 2;", 1, 14);
        Due.faulty(x, 2, "link 0 fro 1 to 2;", 1, 7);
        Due.faulty(x, 3, "day 1 lin 0;", 1, 6);
        Due.faulty(x, 1, "on 1 pape 0;", 1, 5);
        Due.faulty(x, 1, "on 1 papers 0;", 1, 5);
        Due.faulty(x, 1, "on 1 bridged 0;", 1, 5);
    }

    /** "Blanks (32, 10) between" */
    private static void blanks() {
        TwelveChain x = chain(1);
        for (int c = 0; c < 256; c++) {
            String text = "cost 7" + (char) c + ";";
            boolean blank = c == 32 || c == 10;
            if (blank) {
                Due.told(x, 0, text, 1);
            } else if (c == ';') {
                Due.faulty(x, 0, text, 1, 7);
            } else if (c == '+' || c == '-' || c == '*' || c == '/') {
                Due.faulty(x, 0, text, 1, 7);
            } else if (c >= '0' && c <= '9') {
                Due.told(x, 0, text, 1);
            } else {
                Due.faulty(x, 0, text, 1, 6);
            }
            x = c % 20 == 19 ? chain(1) : x;
        }
        Due.told(x, 0, "\n\n cost\n \n7\n;\n", 1);
        Due.told(x, 0, "cost7;give8;ready9;leave10;", 4);
    }

    /** "KEYWORDS (those told here for that text)": where a line begins only its own can stand. */
    private static void keywords() {
        String[][] begins = {{"ready", "leave", "give", "cost"}, {"on"}, {"link"}, {"day"}};
        for (int k = 0; k < 4; k++) {
            TwelveChain x = chain(1);
            for (String w : WORDS) {
                boolean can = java.util.List.of(begins[k]).contains(w);
                Due.faulty(x, k, w + " ", 1, can ? w.length() + 1 : 0);
            }
        }
        String[] deeds = {"ask", "bridge", "pay", "paper"};
        TwelveChain x = chain(2);
        for (String w : WORDS) {
            boolean can = java.util.List.of(deeds).contains(w);
            Due.faulty(x, 1, "on 1 " + w, 1, can ? 5 + w.length() : 5);
        }
        String[] names = {"link", "price", "purse", "worth", "slow", "day", "links", "bridged", "lacks"};
        x = chain(2);
        for (String w : WORDS) {
            boolean can = java.util.List.of(names).contains(w);
            Due.faulty(x, 0, "give " + w, 1, can ? 5 + w.length() : 5);
        }
    }

    /** "16 lines of each at most"; "3 (at its KEYWORD) the 17th line of a text" */
    private static void sixteenLines() {
        String[] line = {"cost 1;", "on 0 paper 0;", "link 0 from 0 to 9;", "day 0 link 0;"};
        for (int k = 0; k < 4; k++) {
            String sixteen = line[k].repeat(16);
            TwelveChain x = chain(1);
            Due.told(x, k, line[k].repeat(15), 15);
            Due.told(x, k, sixteen + " \n", 16);
            Due.is("lines", x.look(8 + k), 16);
            String word = line[k].substring(0, line[k].indexOf(' '));
            Due.faulty(x, k, sixteen + "  " + word, 3, sixteen.length() + 2);
            Due.faulty(x, k, sixteen + line[k] + line[k], 3, sixteen.length());
            Due.faulty(x, k, sixteen + word + " !", 3, sixteen.length());
            // what can't stand there is the lesser FAULT at its place
            Due.faulty(x, k, sixteen + word + "x", 1, sixteen.length());
            Due.faulty(x, k, sixteen + "7", 1, sixteen.length());
            Due.faulty(x, k, sixteen + "(", 1, sixteen.length());
            // one ahead of it is the first
            Due.faulty(x, k, line[k].repeat(15) + word + ";" + line[k], 1, line[k].length() * 15 + word.length());
            Due.is("sixteen lines stay", x.look(8 + k), 16);
            Due.told(x, k, line[k], 1);
            Due.is("one line in their place", x.look(8 + k), 1);
        }
        // the 16th line counts
        TwelveChain x = chain(2);
        Due.told(x, 0, "cost 1 when 1=2;".repeat(15) + "cost 8;", 16);
        Due.is("the 16th line of the law", x.of(0, 11), 8);
        Due.told(x, 2, "link 0 from 0 to 9;".repeat(15) + "link 0 from 5 to 8;", 16);
        Due.is("the 16th line of phones", x.phone(0, 0), 5);
        Due.told(x, 3, "day 0 link 0;".repeat(15) + "day 0 link 1;", 16);
        Due.is("the 15 of one", x.phone(0, 2), 15);
        Due.is("the 16th of records", x.phone(1, 2), 1);
        Due.told(x, 1, "on 0 bridge 0;".repeat(15) + "on 0 paper 1;", 16);
        Due.tell(x, 0, "ready 0;");
        x.days(1);
        Due.is("the 16th line of a plan", x.of(1, 4), 1);
    }

    /** "(at it) the 9th ( or not that is open" */
    private static void eightOpen() {
        TwelveChain x = chain(1);
        String[] opens = {"((((((((", "not not not not not not not not ", "not(not(not(not(", "(not(not(not(not ", "((((not not not not "};
        String[] closes = {"))))))))", "", "))))", "))))", "))))"};
        for (int i = 0; i < opens.length; i++) {
            String head = "give 1 when " + opens[i];
            Due.told(x, 0, head + "1=1" + closes[i] + ";", 1);
            Due.faulty(x, 0, head + "(1=1)" + closes[i] + ";", 3, head.length());
            Due.faulty(x, 0, head + "not 1=1" + closes[i] + ";", 3, head.length());
            Due.faulty(x, 0, head + " (", 3, head.length() + 1);
            // where ( or not can't stand at all, that is the lesser FAULT
            Due.faulty(x, 0, head + "1(", 1, head.length() + 1);
            Due.faulty(x, 0, head + "1 not ", 1, head.length() + 2);
            Due.faulty(x, 0, head + "1=(", 1, head.length() + 2);
            Due.faulty(x, 0, head + "1=1(", 1, head.length() + 3);
            Due.faulty(x, 0, head + ")", 1, head.length());
            Due.faulty(x, 0, head + ";", 1, head.length());
        }
        // what is closed is open no more: of a ( behind its ), of a not behind its condition
        Due.told(x, 0, "give 1 when ((((((((1=1)))))))) and ((((((((1=1))))))));", 1);
        Due.told(x, 0, "give 1 when (((((((1=1 and (1=1) and (1=1))))))));", 1);
        Due.told(x, 0, "give 1 when (((((((1=1 and not 1=1 and not 1=1)))))));", 1);
        Due.told(x, 0, "give 1 when " + "not ".repeat(8) + "1=1 or " + "not ".repeat(8) + "1=1;cost 2 when " + "(".repeat(8) + "1=1"
            + ")".repeat(8) + ";", 2);
        Due.faulty(x, 0, "give 1 when (((((((1=1 and (1=1) and ((1=1", 3, 38);
        Due.faulty(x, 0, "give 1 when 1=1;cost 2 when (((((((((", 3, 36);
        Due.faulty(x, 0, "give 1 when " + "(".repeat(388), 3, 20);
        Due.faulty(x, 0, "give 1 when " + "not ".repeat(97), 3, 44);
        Due.told(x, 0, "give 1 when " + "(".repeat(8) + "1=1" + ")".repeat(8) + ";", 1);
        Due.faulty(x, 0, "give 1 when " + "(".repeat(8) + "1=1" + ")".repeat(7) + ";", 1, 30);
        Due.faulty(x, 0, "give 1 when " + "(".repeat(8) + "1=1" + ")".repeat(9) + ";", 1, 31);
    }

    /** "FAULTS, the first by its place" */
    private static void firstByItsPlace() {
        TwelveChain x = chain(2);
        Due.faulty(x, 0, "give 6/0 5;", 2, 7);
        Due.faulty(x, 0, "give 6 5/0;", 1, 7);
        Due.faulty(x, 0, "give 6/0 when (((((((((", 2, 7);
        Due.faulty(x, 0, "give 6/0000", 2, 7);
        Due.faulty(x, 0, "give 1 when (((((((((6/0", 3, 20);
        Due.faulty(x, 0, "give 1 when 6/0=((((((((((", 2, 14);
        Due.faulty(x, 1, "on 1000 ask 9 0;", 2, 3);
        Due.faulty(x, 1, "on 100 ask 9 0;", 2, 11);
        Due.faulty(x, 1, "on 100 ask 1 0;", 2, 13);
        Due.faulty(x, 1, "on 100 ask 1 1.", 1, 14);
        Due.faulty(x, 1, "on 100 pay 0 0 0;", 2, 13);
        Due.faulty(x, 1, "on 100 pay 2 2 0;", 2, 11);
        Due.faulty(x, 1, "on 1000 on", 2, 3);
        Due.faulty(x, 2, "link 2 from 241 to 241;", 2, 5);
        Due.faulty(x, 2, "link 1 from 241 to 241;", 2, 12);
        Due.faulty(x, 2, "link 1 from 240 to 241;", 2, 19);
        Due.faulty(x, 2, "link 1 from 241 241;", 2, 12);
        Due.faulty(x, 3, "day 1000 link 2;", 2, 4);
        Due.faulty(x, 3, "day 999 link 2", 2, 13);
        Due.faulty(x, 3, "day 999 link 1", 1, 14);
    }

    /** "(the end: the text's length)": blanks at the end count. */
    private static void atTheEnd() {
        String[] heads = {"give", "give ", "give 1", "give 1 ", "give 1+", "give 1*", "give 1/", "give 1 when", "give 1 when 1", "give 1 when 1<",
            "give 1 when 1<2", "give 1 when 1<2 and", "give 1 when 1<2 or", "give 1 when not", "give 1 when (", "give 1 when (1<2",
            "give 1 when (1<2)", "give 1;cost", "give 1;cost 2\n\n"};
        TwelveChain x = chain(2);
        for (String h : heads) {
            Due.faulty(x, 0, h, 1, h.length());
            Due.faulty(x, 0, h + " ", 1, h.length() + 1);
        }
        x = chain(2);
        String[] plans = {"on", "on 5", "on 5 ask", "on 5 ask 0", "on 5 ask 0 1", "on 5 bridge", "on 5 bridge 0", "on 5 pay", "on 5 pay 0",
            "on 5 pay 0 1", "on 5 pay 0 1 9", "on 5 paper", "on 5 paper 0", "on 5 paper 0 \n"};
        for (String h : plans) {
            Due.faulty(x, 1, h, 1, h.length());
        }
        String[] phones = {"link", "link 0", "link 0 from", "link 0 from 1", "link 0 from 1 to", "link 0 from 1 to 2"};
        for (String h : phones) {
            Due.faulty(x, 2, h, 1, h.length());
        }
        String[] records = {"day", "day 1", "day 1 link", "day 1 link 0"};
        for (String h : records) {
            Due.faulty(x, 3, h, 1, h.length());
        }
    }

    /** "(DAY 0 .. 999; N 1 .. 99.)" */
    private static void planNumbers() {
        TwelveChain x = chain(12);
        for (int day : new int[] {0, 1, 998, 999}) {
            Due.told(x, 1, "on " + day + " paper 11;", 1);
        }
        for (int day : new int[] {1000, 1001, 9999}) {
            Due.faulty(x, 1, "on " + day + " paper 11;", 2, 3);
        }
        for (int n : new int[] {1, 2, 98, 99}) {
            Due.told(x, 1, "on 0 ask 11 " + n + ";on 0 pay 0 11 " + n + ";", 2);
        }
        for (int n : new int[] {0, 100, 999, 9999}) {
            Due.faulty(x, 1, "on 0 ask 11 " + n + ";", 2, 12);
            Due.faulty(x, 1, "on 0 pay 0 11 " + n + ";", 2, 14);
        }
        for (String deed : new String[] {"ask", "bridge", "pay", "paper"}) {
            int at = 5 + deed.length() + 1;
            Due.faulty(x, 1, "on 0 " + deed + " 12", 2, at);
            Due.faulty(x, 1, "on 0 " + deed + " 9999", 2, at);
        }
        Due.faulty(x, 1, "on 0 pay 11 12 5;", 2, 12);
        Due.faulty(x, 1, "on 0 pay 11 11 5;", 2, 12);
        Due.faulty(x, 1, "on 0 pay 0 0000 5;", 2, 11);
        Due.told(x, 1, "on 0 pay 11 0 99;", 1);
        Due.faulty(x, 1, "on 0 bridge 1 5;", 1, 14);
        Due.faulty(x, 1, "on 0 paper 1 5;", 1, 13);
        Due.faulty(x, 1, "on 0 ask 1 2 5;", 1, 13);
        Due.faulty(x, 1, "on 0 pay 1 2 5 5;", 1, 15);
        Due.faulty(x, 1, "on link paper 1;", 1, 3);
    }

    /** "(minutes of a morning 0 .. 240, the second one greater; of several lines of one LINK the last; LINKS without a line: 0 to 240.)" */
    private static void phoneNumbers() {
        TwelveChain x = chain(12);
        int[][] good = {{0, 1}, {0, 240}, {239, 240}, {100, 101}};
        for (int[] g : good) {
            Due.told(x, 2, "link 11 from " + g[0] + " to " + g[1] + ";", 1);
            Due.is("from", x.phone(11, 0), g[0]);
            Due.is("to", x.phone(11, 1), g[1]);
        }
        int[][] second = {{0, 0}, {240, 240}, {240, 0}, {100, 100}, {100, 99}, {0, 241}, {240, 241}, {0, 9999}};
        for (int[] g : second) {
            String head = "link 11 from " + g[0] + " to ";
            Due.faulty(x, 2, head + g[1] + ";", 2, head.length());
        }
        for (int from : new int[] {241, 242, 9999}) {
            Due.faulty(x, 2, "link 11 from " + from + " to 240;", 2, 13);
        }
        Due.faulty(x, 2, "link 12 from 0 to 240;", 2, 5);
        Due.is("from stays", x.phone(11, 0), 100);
        StringBuilder s = new StringBuilder();
        for (int i = 0; i < 16; i++) {
            s.append("link 3 from ").append(i).append(" to ").append(240 - i).append(';');
        }
        Due.told(x, 2, s.toString(), 16);
        Due.is("the last from", x.phone(3, 0), 15);
        Due.is("the last to", x.phone(3, 1), 225);
        for (int i = 0; i < 12; i++) {
            Due.is("from without a line", x.phone(i, 0), i == 3 ? 15 : 0);
            Due.is("to without a line", x.phone(i, 1), i == 3 ? 225 : 240);
        }
    }

    /** "(the DAY 0 .. 999 on which a LINK wrote.)" */
    private static void recordNumbers() {
        TwelveChain x = chain(12);
        Due.told(x, 3, "day 0 link 0;day 999 link 11;day 0999 link 011;", 3);
        Due.is("records of 11", x.phone(11, 2), 2);
        Due.is("records of 0", x.phone(0, 2), 1);
        Due.faulty(x, 3, "day 1000 link 11;", 2, 4);
        Due.faulty(x, 3, "day 9999 link 11;", 2, 4);
        Due.faulty(x, 3, "day 999 link 12;", 2, 13);
        Due.faulty(x, 3, "day 999 link 9999;", 2, 13);
        Due.told(x, 3, "day 5 link 7;".repeat(16), 16);
        Due.is("16 of one, on one day", x.phone(7, 2), 16);
    }

    /** "a LINK that there is not": as many as there are when the TEXT is told. */
    private static void linksThere() {
        for (int links = 0; links <= 12; links++) {
            TwelveChain x = chain(links);
            Due.faulty(x, 1, "on 0 paper " + links + ";", 2, 11);
            Due.faulty(x, 2, "link " + links + " from 0 to 9;", 2, 5);
            Due.faulty(x, 3, "day 0 link " + links + ";", 2, 11);
            if (links > 0) {
                int last = links - 1;
                Due.told(x, 1, "on 0 paper " + last + ";", 1);
                Due.told(x, 2, "link " + last + " from 0 to 9;", 1);
                Due.told(x, 3, "day 0 link " + last + ";", 1);
            }
            if (links < 12) {
                x.link(1, 1, 1, 1);
                Due.told(x, 1, "on 0 paper " + links + ";", 1);
                Due.told(x, 2, "link " + links + " from 0 to 9;", 1);
                Due.told(x, 3, "day 0 link " + links + ";", 1);
            }
        }
        Due.faulty(chain(1), 1, "on 0 pay 0 1 5;", 2, 11);
        Due.faulty(chain(1), 1, "on 0 pay 0 0 5;", 2, 11);
        Due.told(chain(0), 0, "ready link+price+purse;", 1);
    }

    /** "(none: ready: 300 less 30 times slow, leave 0, give: worth by 4, cost 3)" */
    private static void untold() {
        TwelveChain x = chain(1);
        for (int slow = 0; slow < 10; slow++) {
            x.set(3, 0, slow);
            Due.is("ready at slow " + slow, x.of(0, 8), 300 - 30 * slow);
        }
        int[][] give = {{0, 0}, {3, 0}, {4, 1}, {7, 1}, {8, 2}, {999, 249}, {998, 249}, {996, 249}, {995, 248}, {-1, 0}, {-4, 0}, {-999, 0}};
        for (int[] g : give) {
            x.set(2, 0, g[0]);
            Due.is("give at worth " + g[0], x.of(0, 10), g[1]);
        }
        Due.is("leave", x.of(0, 9), 0);
        Due.is("cost", x.of(0, 11), 3);
        // one word told leaves the others untold
        String[] words = {"ready", "leave", "give", "cost"};
        int[] untold = {270, 0, 10, 3};
        for (int told = 0; told < 4; told++) {
            TwelveChain y = chain(1);
            Due.told(y, 0, words[told] + " 55;", 1);
            for (int k = 0; k < 4; k++) {
                Due.is(words[k] + " where " + words[told] + " is told", y.of(0, 8 + k), k == told ? 55 : untold[k]);
            }
        }
    }

    /** "ready, leave held to 0 .. 1000, give to 0 .. 999, cost to 0 .. 99" */
    private static void held() {
        String[] words = {"ready", "leave", "give", "cost"};
        int[] most = {1000, 1000, 999, 99};
        for (int k = 0; k < 4; k++) {
            TwelveChain x = chain(1);
            int[] values = {0, 1, most[k] - 1, most[k], most[k] + 1, 9999};
            for (int v : values) {
                Due.told(x, 0, words[k] + " " + v + ";", 1);
                Due.is(words[k] + " " + v, x.of(0, 8 + k), Math.min(v, most[k]));
            }
            String[] below = {"0-1", "0-9999", "0-9999*9999", "9999*9999*22", "0-9999*9999*21-9999*9999"};
            int[] due = {0, 0, 0, 0, most[k]};
            for (int i = 0; i < below.length; i++) {
                Due.told(x, 0, words[k] + " " + below[i] + ";", 1);
                Due.is(words[k] + " " + below[i], x.of(0, 8 + k), due[i]);
            }
        }
        // 0 .. 999 that is given holds an asking, too
        TwelveChain x = chain(2);
        x.set(0, 1, 999);
        Due.told(x, 0, "give 9999;", 1);
        Due.is("give 9999 along", x.along(1, 999, 0), 0);
        Due.told(x, 0, "give 998;", 1);
        Due.is("give 998 along", x.along(1, 999, 0), 1);
    }

    /** "Ints, which wrap" */
    private static void wrapped() {
        TwelveChain x = chain(1);
        so(x, "9999*9999*21<0", false);
        so(x, "9999*9999*22<0", true);
        so(x, "9999*9999*21+9999*9999<0", true);
        so(x, "0-9999*9999*21-9999*9999>0", true);
        // 9999 * 9999 * 22 - 2 ^ 32 is -2095407274
        so(x, "9999*9999*22=0-2095*1000*1000-407*1000-274", true);
        so(x, "9999*9999*22/1000=0-2095*1000-407", true);
        so(x, "9999*9999*22/1000=0-2095*1000-408", false);
        so(x, "9999*9999*22/9999=0-9999*21+418", true);
        so(x, "4096*4096*256=0", true);
        so(x, "4096*4096*128<0", true);
        so(x, "4096*4096*128-1>0", true);
        so(x, "4096*4096*127+4096*4095+4095>0", true);
        so(x, "0-4096*4096*128=4096*4096*128", true);
        so(x, "4096*4096*128/1=4096*4096*128", true);
    }

    /** "/ goes towards 0", "2 (at the NUMBER) a part by 0" */
    private static void parts() {
        TwelveChain x = chain(1);
        int[][] due = {{7, 2, 3}, {-7, 2, -3}, {-1, 2, 0}, {-8, 2, -4}, {-9999, 9999, -1}, {-9998, 9999, 0}, {9999, 1, 9999}, {-9999, 1, -9999}};
        for (int[] d : due) {
            x.set(1, 0, d[0]);
            String sum = d[2] < 0 ? "0-" + -d[2] : "" + d[2];
            so(x, "purse/" + d[1] + "=" + sum, true);
        }
        x.set(1, 0, -7);
        gives(x, "100+purse/2", 97);
        gives(x, "100-purse/2", 103);
        gives(x, "100-7/2*2", 94);
        gives(x, "9999/10/10/10", 9);
        gives(x, "1/9999", 0);
        gives(x, "8/2/2*3", 6);
        Due.faulty(x, 0, "give 1/0;", 2, 7);
        Due.faulty(x, 0, "give 1*2/0;", 2, 9);
        Due.faulty(x, 0, "give 1/2/0;", 2, 9);
        Due.faulty(x, 0, "give 1 when 1/00=1;", 2, 14);
        Due.faulty(x, 0, "give 1 when 1=1/000;", 2, 16);
        Due.faulty(x, 0, "give 1/slow;", 1, 7);
        Due.faulty(x, 0, "give 1//2;", 1, 7);
        Due.faulty(x, 0, "give 1/-2;", 1, 7);
        Due.told(x, 0, "give 0/1;", 1);
        Due.told(x, 0, "give 1/01;", 1);
    }

    private static void names() {
        TwelveChain x = new TwelveChain();
        for (int i = 0; i < 12; i++) {
            x.link(999, i == 0 ? -9999 : 9999, i == 0 ? -999 : 999, i == 0 ? 0 : 9);
        }
        Due.told(x, 0, "give link;cost links;", 2);
        for (int i = 0; i < 12; i++) {
            Due.is("link " + i, x.of(i, 10), i);
            Due.is("links", x.of(i, 11), 12);
        }
        so(x, "purse=0-9999", true);
        so(x, "worth=0-999 and slow=0 and price=999 and day=0 and bridged=0 and lacks=12", true);
        Due.told(x, 0, "give 5 when purse=9999 and worth=999 and slow=9;give 4;", 2);
        Due.is("the last one's", x.of(11, 10), 5);
        x.bridge(10);
        Due.told(x, 0, "give 100*bridged+lacks;", 1);
        int[] due = {11, 11, 11, 11, 11, 11, 11, 11, 11, 11, 112, 2};
        for (int i = 0; i < 12; i++) {
            Due.is("bridged and lacks of " + i, x.of(i, 10), due[i]);
        }
        for (int i = 0; i < 166; i++) {
            x.days(60);
        }
        x.days(39);
        Due.told(x, 0, "give day-9900;ready 0;", 2);
        Due.is("day 9999", x.of(0, 10), 99);
    }

    /** "E of the first line with that word whose B is so, or that has none" */
    private static void firstLine() {
        TwelveChain x = chain(3);
        Due.told(x, 0, "cost 1 when link=0;give 77;cost 2 when link=1 or link=0;cost 3;cost 4 when link=2;", 5);
        for (int i = 0; i < 3; i++) {
            Due.is("cost of " + i, x.of(i, 11), i + 1);
            Due.is("give of " + i, x.of(i, 10), 77);
        }
        Due.told(x, 0, "cost 9 when link=2;give 88 when link=2;", 2);
        Due.is("no line is so: cost", x.of(0, 11), 3);
        Due.is("no line is so: give", x.of(0, 10), 10);
        Due.is("a line is so: cost", x.of(2, 11), 9);
        Due.told(x, 0, "cost 0-5;cost 9;", 2);
        Due.is("the first line, held", x.of(0, 11), 0);
    }

    /** "B = A {or A}. A = C {and C}. C = E (< | = | >) E | not C | ( B )" */
    private static void joined() {
        TwelveChain x = chain(1);
        for (int bits = 0; bits < 8; bits++) {
            boolean a = (bits & 4) != 0;
            boolean b = (bits & 2) != 0;
            boolean c = (bits & 1) != 0;
            String p = a ? "1=1" : "1=2";
            String q = b ? "3>2" : "2>2";
            String r = c ? "1<2" : "2<2";
            so(x, p + " or " + q + " and " + r, a || b && c);
            so(x, p + " and " + q + " or " + r, a && b || c);
            so(x, "(" + p + " or " + q + ") and " + r, (a || b) && c);
            so(x, p + " and (" + q + " or " + r + ")", a && (b || c));
            so(x, "not " + p + " and " + q + " or not " + r, !a && b || !c);
            so(x, "not (" + p + " and " + q + ") or " + r, !(a && b) || c);
            so(x, "not not " + p + " and not (not " + q + " or " + r + ")", a && !(!b || c));
            so(x, p + " or " + q + " or " + r, a || b || c);
            so(x, p + " and " + q + " and " + r, a && b && c);
            x = chain(1);
        }
        for (int a = 0; a < 3; a++) {
            x = chain(1);
            so(x, a + "<1", a < 1);
            so(x, a + ">1", a > 1);
            so(x, a + "=1", a == 1);
            so(x, "not " + a + "<1", a >= 1);
            so(x, "not " + a + ">1", a <= 1);
            so(x, "not " + a + "=1", a != 1);
        }
        Due.faulty(x, 0, "give 1 when 1<=2;", 1, 14);
        Due.faulty(x, 0, "give 1 when 1==1;", 1, 14);
        Due.faulty(x, 0, "give 1 when 1=1=1;", 1, 15);
        Due.faulty(x, 0, "give 1 when ();", 1, 13);
        Due.faulty(x, 0, "give 1 when (1)=1;", 1, 14);
        Due.faulty(x, 0, "give 1 when and 1=1;", 1, 12);
        Due.faulty(x, 0, "give 1 when 1=1 and or 1=1;", 1, 20);
        Due.faulty(x, 0, "give 1 when 1=1 1=1;", 1, 16);
        Due.faulty(x, 0, "give 1,;", 1, 6);
        Due.faulty(x, 0, "give 1=1;", 1, 6);
        Due.faulty(x, 0, "give not 1;", 1, 5);
        Due.faulty(x, 0, "give +1;", 1, 5);
        Due.faulty(x, 0, "give 1;;", 1, 7);
    }

    /** "NONE: ... a FAULT (it stays as it was)": even behind many good lines. */
    private static void staysAsItWas() {
        String[] good = {"cost 9;", "on 5 paper 0;", "link 0 from 5 to 50;", "day 5 link 0;"};
        String[] other = {"cost 8;", "on 6 paper 1;", "link 0 from 6 to 60;", "day 6 link 1;"};
        for (int k = 0; k < 4; k++) {
            TwelveChain x = chain(2);
            for (int all = 0; all < 4; all++) {
                Due.told(x, all, good[all], 1);
            }
            String before = Seen.of(x);
            Due.faulty(x, k, other[k] + other[k] + "!", 1, 2 * other[k].length());
            Seen.alike("text " + k + " stays as it was", Seen.of(x), before);
            Due.is("records on day 5 stay", x.ill(5, 1), 2);
            x.days(6);
            Due.is("the plan stays: " + k, x.of(0, 4), 1);
            // the latest text() alone is told by fault()
            Due.told(x, k, good[k], 1);
            Due.is("no fault then", x.fault(0), 0);
            Due.is("no place then", x.fault(1), -1);
        }
    }
}
