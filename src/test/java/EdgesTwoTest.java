/** The boundaries that Terms II names, sentence by sentence: the tape, tokens, both languages, laws and orders. */
public final class EdgesTwoTest {
    private static final String NOTHING_RUN = "step if 1=2";

    private EdgesTwoTest() {
    }

    public static void main(String[] args) {
        tape();
        fullTexts();
        rowsOfLetters();
        rowsOfDigits();
        otherBytes();
        blanks();
        clauses();
        numbers();
        parts();
        partsOfOrders();
        brackets();
        faultAtTheEnd();
        firstFault();
        beyond();
        divided();
        cutTowardsZero();
        onlyIfItMatters();
        nots();
        manyTexts();
        lawsAtMost();
        ranked();
        rankedByTheLast();
        barred();
        words();
        times();
        routersInOrders();
        doneAndLatest();
        brokenOrders();
        allAsItWas();
        Due.closes("EdgesTwoTest");
    }

    private static void faultOf(boolean orders, String text, int want) {
        Counted x = new Counted();
        Due.type(x, text);
        Due.is("it is on the tape: " + text, x.count(6), text.length());
        int answer = orders ? x.orders() : x.law();
        Due.is("fault of " + text, x.fault(), want);
        Due.is("refused by -6: " + text, x.count(11), want < 0 ? 0 : 1);
        Due.is("the answer to " + text, want < 0 || answer == -6 ? 1 : 0, 1);
    }

    private static void lawFault(String text, int want) {
        faultOf(false, text, want);
    }

    private static void ordersFault(String text, int want) {
        faultOf(true, text, want);
    }

    /** The rank of an update from 3 to 5, FAR, one of two that wait; it is 17 o'clock, the mood is 6. */
    private static void rankIs(String law, int want) {
        Counted x = new Counted();
        x.link(3, 5, 7);
        x.terms(0, 17);
        x.terms(2, 6);
        Due.is("law " + law, Due.law(x, law), 0);
        x.force(0);
        Due.is("rank by " + law, x.message(0, 4), want);
    }

    private static void ranIs(String orders, int want) {
        Counted x = new Counted();
        x.link(3, 5, 7);
        Due.is("orders " + orders, Due.orders(x, orders), want);
    }

    private static void tape() {
        Due.about("TEXTS are on a TAPE of at most 400 bytes");
        Counted x = new Counted();
        for (int i = 1; i <= 20; i++) {
            Due.is("feed", x.feed(-1, 0, 1, Integer.MIN_VALUE, Integer.MAX_VALUE), 20 * i);
        }
        Due.is("beyond", x.feed(0, 0, 0, 0, 0), -1);
        Due.is("as before", x.count(6), 400);
        for (int n = 381; n < 400; n++) {
            x.end(n);
            Due.is("none of the twenty comes, if not all do", x.feed(0, 0, 0, 0, 0), -1);
            Due.is("as before", x.count(6), n);
            x.end(380);
            Due.is("to the last byte", x.feed(0, 0, 0, 0, 0), 400);
        }
    }

    private static void fullTexts() {
        Due.about("TEXTS are on a TAPE of at most 400 bytes");
        lawFault(" ".repeat(392) + "ranks 12", -1);
        lawFault("ranks 12" + " ".repeat(392), -1);
        lawFault("ranks 12" + " ".repeat(391) + "?", 399);
        lawFault(" ".repeat(399) + "x", 399);
        lawFault("x".repeat(400), 0);
        lawFault("9".repeat(400), 0);
        lawFault("[".repeat(400), 0);
        lawFault(";".repeat(400), 0);
        lawFault("ranks " + "9".repeat(394), 6);
        lawFault("ranks " + "0".repeat(394), -1);
        lawFault("ranks " + "0".repeat(390) + "1000", -1);
        lawFault("ranks " + "0".repeat(390) + "1001", 6);
        lawFault("bars if " + "not ".repeat(97) + "1=1 ", -1);
        lawFault("bars if " + "not ".repeat(98), 400);
        ordersFault("step" + " ".repeat(396), -1);
        ordersFault(" ".repeat(396) + "step", -1);
        ordersFault("step times " + "0".repeat(387) + "20", -1);
        ordersFault("step times " + "0".repeat(387) + "21", 11);
    }

    private static void rowsOfLetters() {
        Due.about("TOKENS: longest rows of letters a .. z");
        lawFault("ranksfrom", 0);
        lawFault("ranks fromto", 6);
        lawFault("ranks from", -1);
        lawFault("rank s 1", 0);
        lawFault("barsif 1=1", 0);
        lawFault("bars if1=1or 2=2and 3=3", -1);
        lawFault("bars if not1=1", -1);
        lawFault("bars ifnot 1=1", 5);
        String[] laws = {"ranks 1", "bars", "bars if 1=1", "bars if not 1=1", "bars if 1=1 or 1=1", "bars if 1=1 and 1=1",
            "ranks kind", "ranks from", "ranks to", "ranks far", "ranks waits", "ranks time", "ranks mood"};
        for (String law : laws) {
            nearlyWords(false, law);
        }
        String[] orders = {"step if 1=2", "step times 2 if 1=2", "cut 1 if 1=2", "link 1 to 2 as 3 if 1=2", "step if time<0",
            "step if done<0", "step if latest>9", "step if waits<0", "step if distance 1<0", "step if active 1<0"};
        for (String text : orders) {
            nearlyWords(true, text);
        }
        lawFault("Bars", 0);
        lawFault("bARS", 0);
        lawFault("barS", 0);
        lawFault("bars`", 4);
        lawFault("bars{", 4);
        lawFault("bars@", 4);
        lawFault("`bars", 0);
        lawFault("bars\u00e4", 4);
        lawFault("bars if azaz = 1", 8);
        ordersFault("link1to2as3", -1);
        ordersFault("linking 1 to 2 as 3", 0);
        ordersFault("cut distance1", -1);
        ordersFault("cut active0+distance6", -1);
    }

    /** Each word of a text with one letter changed, left out or put in can't go on there. */
    private static void nearlyWords(boolean orders, String text) {
        faultOf(orders, text, -1);
        for (int at = 0; at < text.length(); at++) {
            if (text.charAt(at) < 'a') {
                continue;
            }
            int start = at;
            while (start > 0 && text.charAt(start - 1) >= 'a') {
                start--;
            }
            // No word has a q, so this is none.
            faultOf(orders, text.substring(0, at) + 'q' + text.substring(at + 1), start);
            faultOf(orders, text.substring(0, at) + 'q' + text.substring(at), start);
            faultOf(orders, text.substring(0, at + 1) + 'q' + text.substring(at + 1), start);
        }
    }

    private static void rowsOfDigits() {
        Due.about("TOKENS: longest rows .. of digits");
        lawFault("ranks 1 1", 8);
        lawFault("ranks 100 0", 10);
        lawFault("ranks 11", -1);
        rankIs("ranks 11", 11);
        rankIs("ranks 0011", 11);
        rankIs("ranks 90-09", 81);
        lawFault("ranks 1/", 8);
        lawFault("ranks 1:", 7);
        lawFault("ranks 1.5", 7);
        lawFault("ranks 1e3", 7);
        lawFault("ranks \u00b2", 6);
    }

    private static void otherBytes() {
        Due.about("TOKENS: .. single other bytes");
        for (int sign = 0; sign < 256; sign++) {
            boolean joins = sign == ' ' || sign >= 'a' && sign <= 'z' || sign >= '0' && sign <= '9';
            boolean goesOn = "+-*/%;".indexOf(sign) >= 0;
            int want = joins ? (sign == ' ' ? -1 : sign <= '9' ? -1 : 7) : goesOn ? 8 : 7;
            lawFault("ranks 1" + (char) sign, want);
        }
        lawFault("bars if 1==1", 10);
        lawFault("bars if 1<=1", 10);
        lawFault("bars if 1<>1", 10);
        lawFault("ranks 1;;ranks 1", 8);
        lawFault("ranks --1", 6);
        lawFault("ranks [[1]]", -1);
    }

    private static void blanks() {
        Due.about("any blanks (32) between");
        lawFault("ranks[1]+[2]*3", -1);
        lawFault("   ranks   [   1   ]   +   [   2   ]   ", -1);
        for (int sign : new int[] {0, 9, 10, 11, 12, 13, 31, 33, 160}) {
            lawFault("ranks" + (char) sign + "1", 5);
            lawFault((char) sign + "ranks 1", 0);
            lawFault("ranks 1" + (char) sign, 7);
            ordersFault("step" + (char) sign, 4);
        }
    }

    private static void clauses() {
        Due.about("CLAUSE {\";\" CLAUSE}, 12 at most (FAULT at the 13th's first TOKEN)");
        lawFault("bars;".repeat(11) + "bars", -1);
        lawFault("bars;".repeat(12) + "bars", 60);
        lawFault("bars;".repeat(12) + "   bars", 63);
        lawFault("bars;".repeat(12) + "?", 60);
        lawFault("bars;".repeat(12), 60);
        lawFault("bars;".repeat(12) + "  ", 62);
        lawFault("bars;".repeat(11) + "bars ?", 60);
        lawFault("bars;".repeat(11) + "bar;bars", 55);
        lawFault("bars;".repeat(13) + "bars", 60);
        ordersFault((NOTHING_RUN + ";").repeat(11) + NOTHING_RUN, -1);
        ordersFault((NOTHING_RUN + ";").repeat(12) + NOTHING_RUN, 144);
        rankIs("ranks 1;ranks 2;ranks 3;ranks 4;ranks 5;ranks 6;ranks 7;ranks 8;ranks 9;ranks 10;ranks 11;ranks 12", 12);
        ranIs("link 1 to 2 as done+1;".repeat(11) + "link 1 to 2 as 50", 12);
    }

    private static void numbers() {
        Due.about("NUMBER (to 1,000)");
        lawFault("ranks 1000", -1);
        lawFault("ranks 1001", 6);
        lawFault("ranks 0", -1);
        lawFault("ranks 999", -1);
        lawFault("ranks 9999", 6);
        lawFault("ranks 10000", 6);
        for (String big : new String[] {"2147483648", "4294967296", "4294967297", "18446744073709551616", "42949672960000001"}) {
            lawFault("ranks " + big, 6);
            ordersFault("step times " + big, 11);
            ordersFault("cut distance " + big, 13);
        }
        rankIs("ranks 1000/10-1", 99);
        rankIs("ranks 1000-999", 1);
        ordersFault("cut 1001", 4);
        ordersFault("link 1 to 2 as 1001", 15);
    }

    private static void parts() {
        Due.about("50 PARTS that are NUMBERS and words (FAULT at the 51st)");
        lawFault("ranks 1" + "+1".repeat(48), -1);
        lawFault("ranks 1" + "+1".repeat(49), -1);
        lawFault("ranks 1" + "+1".repeat(50), 106);
        lawFault("ranks to" + "+to".repeat(49), -1);
        lawFault("ranks to" + "+to".repeat(50), 156);
        lawFault("ranks 1" + "+to".repeat(49) + "+1", 155);
        lawFault("ranks [1" + "]+[1".repeat(49) + "]", -1);
        lawFault("ranks [1" + "]+[1".repeat(50) + "]", 207);
        lawFault("bars if 1=1" + "or 1=1".repeat(24), -1);
        lawFault("bars if 1=1" + "or 1=1".repeat(25), 158);
        lawFault("ranks 1" + "+1".repeat(49) + " if", 108);
        lawFault("ranks 1" + "+1".repeat(49) + " if 1=1", 109);
        lawFault("ranks 1+1+1+1+1;".repeat(10) + "bars", -1);
        lawFault("ranks 1+1+1+1+1;".repeat(10) + "ranks 1", 166);
        lawFault("ranks 1" + "+1".repeat(49) + "+1001", 106);
        lawFault("ranks 1" + "+1".repeat(49) + "+?", 106);
        rankIs("ranks 1" + "+1".repeat(49), 50);
    }

    private static void partsOfOrders() {
        Due.about("R, TIMES aside, NUMBERS and words count as PARTS");
        ordersFault("step times 3 if " + "1+".repeat(48) + "1=0", -1);
        ordersFault("step times 3 if " + "1+".repeat(49) + "1=0", 116);
        ordersFault("step if " + "distance 1+".repeat(29) + "1" + "+1".repeat(19) + "=0", -1);
        ordersFault("step if " + "distance 1+".repeat(29) + "1" + "+1".repeat(20) + "=0", 8 + 319 + 1 + 40 + 1);
        ordersFault("step if " + "active 6+".repeat(30) + "1" + "+1".repeat(18) + "=active 6", -1);
        ordersFault("step if " + "active 6+".repeat(30) + "1" + "+1".repeat(19) + "=active 6", 8 + 270 + 1 + 38 + 1);
        ordersFault(("step times 20 if 1=2;").repeat(11) + "step times 20 if 1=2", -1);
        ordersFault("link 1 to 2 as 3 if 1=2;".repeat(10) + "step", -1);
        ordersFault("link 1 to 2 as 3 if 1=2;".repeat(10) + "cut 1", 244);
    }

    private static void brackets() {
        Due.about("8 brackets of both kinds within one another (FAULT at the 9th) at most");
        lawFault("ranks [[[[[[[[1]]]]]]]]", -1);
        lawFault("ranks [[[[[[[[[1]]]]]]]]]", 14);
        lawFault("bars if ((((((((1=1))))))))", -1);
        lawFault("bars if (((((((((1=1)))))))))", 16);
        for (int round = 0; round <= 8; round++) {
            int square = 8 - round;
            String fine = "(".repeat(round) + "[".repeat(square) + "1" + "]".repeat(square) + "=1" + ")".repeat(round);
            lawFault("bars if " + fine, -1);
            ordersFault("step times 2 if 1=2 and " + fine, -1);
            String deep = "(".repeat(round) + "[".repeat(square + 1) + "1" + "]".repeat(square + 1) + "=1" + ")".repeat(round);
            lawFault("bars if " + deep, 16);
            lawFault("bars if " + "(".repeat(round) + "1=" + "[".repeat(square + 1), 18);
        }
        lawFault("ranks [[[[[[[[1]]]]]]]]+[[[[[[[[1]]]]]]]]", -1);
        lawFault("ranks [1]" + "+[1]".repeat(20), -1);
        lawFault("bars if (1=1)" + "or(1=1)".repeat(20), -1);
        lawFault("bars if not(not(not(not(not(not(not(not(1=1))))))))", -1);
        lawFault("bars if not(not(not(not(not(not(not(not(not(1=1)))))))))", 43);
        ordersFault("cut [[[[[[[[1]]]]]]]]if 1=2", -1);
        ordersFault("cut [[[[[[[[[1]]]]]]]]]if 1=2", 12);
        rankIs("ranks [[[[[[[[7]]]]]]]]", 7);
    }

    private static void faultAtTheEnd() {
        Due.about("FAULT: the first TOKEN that can't go on there (the end's: the TEXT's length)");
        lawFault("", 0);
        lawFault(" ", 1);
        lawFault(" ".repeat(400), 400);
        ordersFault("", 0);
        ordersFault(" ".repeat(400), 400);
        lawFault("ranks", 5);
        lawFault("ranks  ", 7);
        lawFault("ranks 1+ ", 9);
        lawFault("ranks [1 ", 9);
        lawFault("bars if ", 8);
        lawFault("bars if 1 ", 10);
        lawFault("bars if (1=1 ", 13);
        lawFault("bars ; ", 7);
        ordersFault("link", 4);
        ordersFault("link 1 ", 7);
        ordersFault("link 1 to ", 10);
        ordersFault("link 1 to 2 as ", 15);
        ordersFault("cut ", 4);
        ordersFault("step times ", 11);
        ordersFault("cut distance ", 13);
        ordersFault("cut active ", 11);
    }

    private static void firstFault() {
        Due.about("FAULT: the first TOKEN that can't go on there");
        lawFault("  step", 2);
        lawFault("cut ranks", 0);
        ordersFault("bars", 0);
        ordersFault("ranks 1", 0);
        lawFault("bars if 1=1=1", 11);
        lawFault("bars if (1=1", 12);
        lawFault("bars if 1=1)", 11);
        lawFault("bars if (1+1)=2", 12);
        lawFault("bars if [1=1]", 10);
        lawFault("ranks (1)", 6);
        lawFault("ranks 1 ranks 2", 8);
        lawFault("bars if 1=1 times 2", 12);
        lawFault("bars times 2", 5);
        ordersFault("step if 1=2 times 2", 12);
        ordersFault("step if 1=2 if 1=2", 12);
        ordersFault("step times 1 times 1", 13);
        ordersFault("link 1 as 2 to 3", 7);
        ordersFault("cut 1 to 2", 6);
        ordersFault("step 1", 5);
        ordersFault("? ?", 0);
    }

    private static void beyond() {
        Due.about("Beyond 1,000,000,000 either way .. a SUM, a TEST is BROKEN");
        String most = "1000*1000*1000";
        rankIs("ranks 3;ranks " + most + "*0+5", 5);
        rankIs("ranks 3;ranks [" + most + "+1]*0+5", 3);
        rankIs("ranks 3;ranks [" + most + "+0]*0+5", 5);
        rankIs("ranks 3;ranks [0-" + most + "]*0+5", 5);
        rankIs("ranks 3;ranks [0-" + most + "-1]*0+5", 3);
        rankIs("ranks 3;ranks [" + most + "-[0-1]]*0+5", 3);
        rankIs("ranks 3;ranks " + most + "+1-1", 3);
        rankIs("ranks 3;ranks 0-" + most + "-1+1", 3);
        rankIs("ranks 3;ranks 0-[" + most + "+1]", 3);
        rankIs("ranks 3;ranks " + most + "*1000/1000", 3);
        rankIs("ranks 3;ranks [" + most + "]*[" + most + "]*0+5", 3);
        rankIs("ranks 3;ranks [0-" + most + "]*[" + most + "]*0+5", 3);
        rankIs("ranks 3;ranks [" + most + "]/[" + most + "]", 1);
        rankIs("ranks 3;ranks " + most, 99);
        rankIs("ranks 3;ranks 0-" + most, 0);
        rankIs("ranks 3;ranks 5 if " + most + ">0", 5);
        rankIs("ranks 3;ranks 5 if " + most + "+1>0", 3);
        rankIs("ranks 3;ranks 5 if 0<" + most + "+1", 3);
        rankIs("ranks 3;ranks 5 if not " + most + "+1<0", 3);
        rankIs("ranks 3;ranks 5 if not(" + most + "+1>0)", 3);
        rankIs("ranks 3;ranks 5 if 0-" + most + "<0", 5);
        rankIs("ranks 3;ranks 5 if 0-" + most + "-1<0", 3);
        rankIs("ranks 3;ranks 2*" + most, 3);
        rankIs("ranks 3;ranks 3*" + most, 3);
        rankIs("ranks 3;ranks 5*" + most, 3);
    }

    private static void divided() {
        Due.about("divided by 0 .. a SUM, a TEST is BROKEN");
        rankIs("ranks 3;ranks 1/0", 3);
        rankIs("ranks 3;ranks 1%0", 3);
        rankIs("ranks 3;ranks 0/0", 3);
        rankIs("ranks 3;ranks 0%0", 3);
        rankIs("ranks 3;ranks 5+1/[2-2]", 3);
        rankIs("ranks 3;ranks 5+0*[1%kind]", 3);
        rankIs("ranks 3;ranks 1/1", 1);
        rankIs("ranks 3;ranks 0/1", 0);
        rankIs("ranks 3;ranks 9 if 1/0=1/0", 3);
        rankIs("ranks 3;ranks 9 if not 1/0=1", 3);
        rankIs("ranks 3;ranks 1/0;ranks 2 if 1=2", 3);
        ranIs("step if 1/0=0;step if 1%0=0;step", 1);
    }

    private static void cutTowardsZero() {
        Due.about("(/ cut towards 0, % what is left then)");
        rankIs("ranks 7/2", 3);
        rankIs("ranks [0-7]/2+50", 47);
        rankIs("ranks 7/[0-2]+50", 47);
        rankIs("ranks [0-7]/[0-2]+50", 53);
        rankIs("ranks 7%2", 1);
        rankIs("ranks [0-7]%2+50", 49);
        rankIs("ranks 7%[0-2]+50", 51);
        rankIs("ranks [0-7]%[0-2]+50", 49);
        rankIs("ranks [0-1]/2+50", 50);
        rankIs("ranks [0-1]%2+50", 49);
        rankIs("ranks 1/2+50", 50);
        rankIs("ranks 6%3+50", 50);
    }

    private static void onlyIfItMatters() {
        Due.about("(\"or\", \"and\" ask what stands behind only if it can still matter)");
        rankIs("ranks 3;ranks 5 if 1=1 or 1/0=1", 5);
        rankIs("ranks 3;ranks 5 if 1=2 or 1/0=1", 3);
        rankIs("ranks 3;ranks 5 if 1=2 or 1/0=1 or 1=1", 3);
        rankIs("ranks 3;ranks 5 if 1=2 or 1=1 or 1/0=1", 5);
        rankIs("ranks 3;ranks 5 if not(1=2 and 1/0=1)", 5);
        rankIs("ranks 3;ranks 5 if not(1=1 and 1/0=1)", 3);
        rankIs("ranks 3;ranks 5 if not(1=1 and 1=2 and 1/0=1)", 5);
        rankIs("ranks 3;ranks 5 if 1=2 and 1/0=1 or 1=1", 5);
        rankIs("ranks 3;ranks 5 if 1=1 or 1=1 and 1/0=1", 5);
        rankIs("ranks 3;ranks 5 if (1=1 or 1/0=1) and 1=1", 5);
        rankIs("ranks 3;ranks 5 if (1=2 and 1/0=1) or 1/0=1", 3);
        rankIs("ranks 3;ranks 5 if not(1=2 or 1=2) and not(1=2 and 1%0=0)", 5);
        ranIs("step if 1=1 or 1/0=1;step if 1=2 and 1/0=1;step if 1=2 or 1/0=1", 1);
    }

    private static void nots() {
        Due.about("PLAIN: \"not\" PLAIN | \"(\" TEST \")\" | SUM (\"<\" | \">\" | \"=\") SUM");
        for (int n = 0; n < 9; n++) {
            rankIs("ranks 3;ranks 5 if " + "not ".repeat(n) + "1=1", n % 2 == 0 ? 5 : 3);
            rankIs("ranks 3;ranks 5 if " + "not ".repeat(n) + "1=2", n % 2 == 0 ? 3 : 5);
            rankIs("ranks 3;ranks 5 if " + "not(".repeat(n) + "1=1" + ")".repeat(n), n % 2 == 0 ? 5 : 3);
        }
        rankIs("ranks 3;ranks 5 if not 1=1 and 1=1", 3);
        rankIs("ranks 3;ranks 5 if not(1=1)and 1=1", 3);
        rankIs("ranks 3;ranks 5 if not 1=2 and 1=2", 3);
        rankIs("ranks 3;ranks 5 if not(1=2 and 1=2)", 5);
        rankIs("ranks 3;ranks 5 if not 1=1 or 1=1", 5);
        rankIs("ranks 3;ranks 5 if not(1=1 or 1=1)", 3);
        rankIs("ranks 3;ranks 5 if not 1=2 or 1/0=1", 5);
        rankIs("ranks 3;ranks 5 if 1=1 or 1=1 and 1=2", 5);
        rankIs("ranks 3;ranks 5 if (1=1 or 1=1) and 1=2", 3);
        rankIs("ranks 3;ranks 5 if 1<1 or 1>1", 3);
        rankIs("ranks 3;ranks 5 if 1<2 and 2>1 and 2=2", 5);
        rankIs("ranks 3;ranks 5 if 2<1 or 1>2 or 1=2", 3);
        rankIs("ranks 2+3*4-10/5%3", 12);
        rankIs("ranks 20-5-3", 12);
        rankIs("ranks 20-[5-3]", 18);
        rankIs("ranks 40/5/2", 4);
        rankIs("ranks [2+3]*[4-1]", 15);
    }

    private static void manyTexts() {
        Due.about("TEXTS are on a TAPE");
        Counted x = new Counted();
        String dear = "link 3 to 5 as " + "1+".repeat(39) + "1 if " + "not(".repeat(4) + "1=2 or 1=1" + ")".repeat(4);
        for (int i = 0; i < 25; i++) {
            Due.is("as the first, so the last", Due.orders(x, dear + " and done=0"), i == 0 ? 1 : -3);
            Due.orders(x, "bars");
            Due.law(x, "?");
        }
        Due.is("it costs", x.between(5, 3, 0), 40);
        Due.is("a law behind all these", Due.law(x, "ranks 1" + "+1".repeat(49)), 0);
        x.force(0);
        Due.is("it ranks", x.message(0, 4), 50);
    }

    private static void lawsAtMost() {
        Due.about("LAWS, 6 at most; one is in FORCE (NONE at first: no CLAUSE)");
        Counted x = new Counted();
        x.link(1, 2, 3);
        Due.is("none at first", x.count(12), -1);
        Due.is("it ranks 0", x.message(0, 4), 0);
        Due.is("nothing is barred", x.link(3, 4, 5), 0);
        for (int i = 0; i < 6; i++) {
            Due.is("no such law yet", x.force(i), -2);
            Due.is("law", Due.law(x, "ranks 1" + i), i);
            Due.is("it can be in force", x.force(i), i - 1);
            Due.is("it ranks", x.message(0, 4), 10 + i);
        }
        Due.is("the seventh", Due.law(x, "ranks 1"), -5);
        Due.is("six", x.count(4), 6);
        Due.is("no such law", x.force(6), -2);
        Due.is("none again", x.force(-1), 5);
        Due.is("it ranks 0", x.message(0, 4), 0);
    }

    private static void ranked() {
        Due.about("A MESSAGE RANKS 0 .. 99 .. (else the nearest), 0 without");
        rankIs("ranks 98", 98);
        rankIs("ranks 99", 99);
        rankIs("ranks 100", 99);
        rankIs("ranks 1000", 99);
        rankIs("ranks 1", 1);
        rankIs("ranks 0", 0);
        rankIs("ranks 0-1", 0);
        rankIs("ranks 0-1000", 0);
        rankIs("bars", 0);
        rankIs("ranks 5 if 1=2", 0);
        rankIs("ranks 1/0", 0);
        Counted x = new Counted();
        x.link(1, 2, 3);
        x.link(3, 4, 3);
        Due.law(x, "ranks 100;ranks 99 if from = 3");
        x.force(0);
        x.step();
        Due.is("100 and 99 are alike, so the eldest goes first", x.between(1, 2, 4), 0);
        x.undo();
        Due.law(x, "ranks 0;ranks 0 - 1 if from = 3");
        x.force(1);
        x.step();
        Due.is("0 and -1 are alike, too", x.between(1, 2, 4), 0);
    }

    private static void rankedByTheLast() {
        Due.about("as the last \"ranks\" that HOLDS tells");
        rankIs("ranks 1;ranks 2;ranks 3", 3);
        rankIs("ranks 1;ranks 2;ranks 3 if 1=2", 2);
        rankIs("ranks 1;ranks 2 if 1=2;ranks 3 if 1/0=1", 1);
        rankIs("ranks 1;ranks 2;ranks 3/0", 2);
        rankIs("ranks 3/0 if 1=1", 0);
        rankIs("ranks 1;bars;bars if 1=2", 1);
        rankIs("ranks 9;ranks 0 - 5", 0);
    }

    private static void barred() {
        Due.about("a change is BARRED, if \"bars\" HOLDS");
        String[] laws = {"bars if 1/0=1", "bars if 1=2", "ranks 1", "ranks 1/0", "bars if far=6 and waits=0", "bars if far>0-1 and kind>0-1"};
        for (String law : laws) {
            Counted x = new Counted();
            Due.law(x, law);
            x.force(0);
            Due.is("not barred by " + law, x.link(6, 5, 7), 0);
        }
        String[] others = {"bars", "bars if 1=1", "bars;ranks 1/0", "bars if 1=2;bars", "bars;bars if 1=2", "bars if kind=0-1",
            "bars if from=6 and to=5 and far=7 and waits=0 and time=0 and mood=0"};
        for (String law : others) {
            Counted x = new Counted();
            Due.law(x, law);
            x.force(0);
            Due.is("barred by " + law, x.link(6, 5, 7), -3);
            x.force(-1);
            Due.is("not if it is not in force", x.link(6, 5, 7), 0);
        }
        Counted x = new Counted();
        Due.law(x, "bars if far = 0");
        x.link(1, 2, 3);
        x.force(0);
        Due.is("what is lost costs 0", x.link(1, 2, 0), -3);
        Due.is("the others go", x.link(1, 2, 1), 3);
    }

    private static void words() {
        Due.about("(kind 0, 1, 2; far: its DISTANCE; waits: how many MESSAGES do)");
        Counted x = Scenes.asking();
        Due.law(x, "ranks kind*10+waits");
        x.force(0);
        Due.is("a query, one of two", x.message(0, 4), 12);
        Scenes.steps(x, 1);
        Due.is("a reply, one of two", x.message(1, 4), 22);
        rankIs("ranks kind", 0);
        rankIs("ranks far - 9*1000-999+42", 42);
        rankIs("ranks time + mood", 23);
        Counted y = Scenes.crowded(400);
        Due.law(y, "ranks waits - 350");
        y.force(0);
        Due.is("400 wait", y.message(0, 4), 50);
        Due.is("400 wait", y.message(399, 4), 50);
    }

    private static void times() {
        Due.about("TIMES: a NUMBER 1 .. 20");
        ordersFault("step times 0", 11);
        ordersFault("step times 21", 11);
        ordersFault("step times 1 if 1=2", -1);
        ordersFault("step times 20 if 1=2", -1);
        ordersFault("step times 1000", 11);
        ordersFault("step times waits", 11);
        ordersFault("step times [2]", 11);
        ordersFault("step times -1", 11);
        ranIs("link 1 to 2 as done + 1", 1);
        ranIs("link 1 to 2 as done + 1 times 1", 1);
        ranIs("link 1 to 2 as done + 1 times 19", 19);
        ranIs("link 1 to 2 as done + 1 times 20", 20);
        ranIs("link 1 to 2 as done + 1 times 20;link 1 to 2 as done + 1 times 20;link 1 to 2 as done + 1 times 10", 50);
        ranIs("link 1 to 2 as done + 1 times 20;link 1 to 2 as done + 1 times 20;link 1 to 2 as done + 1 times 11", -3);
        ranIs("link 3 to 5 as done%2 times 20;".repeat(11) + "link 3 to 5 as done%2 times 20", 240);
    }

    private static void routersInOrders() {
        Due.about("(R: a NUMBER 0 .. 6; active: 1, 0)");
        for (int r = 0; r < 7; r++) {
            ordersFault("step if distance " + r + "=active " + r + "+50", -1);
            ranIs("step if distance " + r + "=" + (r == 0 ? "0" : "9*1000+999") + " and active " + r + "=0", 1);
        }
        for (String bad : new String[] {"7", "8", "1000", "07", "time", "[1]", "-1", "x", "active 1"}) {
            ordersFault("step if distance " + bad + "=0", 17);
            ordersFault("step if active " + bad + "=0", 15);
        }
        ordersFault("step if active 000006=1", -1);
        Counted x = Scenes.asking();
        Due.is("active is 1", Due.orders(x, "cut 2 if active 2=1;cut 2 if active 2>1;cut 2 if active 1+active 3>0"), 1);
        Due.is("it was cut", x.router(2, 3), 0);
        Counted y = Scenes.row();
        y.link(0, 1, 2);
        Scenes.routerIs("its bound is another one", y, 1, 2, 1);
        Due.is("distance is not the bound", Due.orders(y, "step times 2 if distance 1=2;step if distance 1=1"), 2);
    }

    private static void doneAndLatest() {
        Due.about("done: how many were run in this TEXT, latest: what the latest step in it told (-1: none)");
        Counted x = new Counted();
        Due.is("three links", Due.orders(x, "link 0 to done+1 as 1 times 3"), 3);
        Due.is("none is done at first, once more", Due.orders(x, "link 0 to done+4 as 1"), 1);
        Due.is("no step: -1", Due.orders(x, "link 0 to 5 as 1 if latest=0-1;link 0 to 6 as 1 if latest=0-1"), 2);
        Due.is("what was not run is not done", Due.orders(x, "step if 1=2;step if done=0;step if done=1;step if done=0"), 2);
        Due.is("a link is no step", Due.orders(x, "step if latest=0-1;link 1 to 2 as 1 if latest=0;step if latest=0 and done=2"), 3);
        Due.is("none in this text", Due.orders(x, "step if latest=0-1;step if latest=0-1"), 1);
        Counted y = Scenes.asking();
        Due.is("a query told 1, then a reply 2", Due.orders(y, "step times 20 if latest<2 and waits>0"), 3);
        Counted z = Scenes.asking();
        Due.is("a cut is no step, either", Due.orders(z, "step;cut 2 if latest=1;link 5 to 6 as 1 if latest=1"), 3);
    }

    private static void brokenOrders() {
        Due.about("each time its \"if\" is asked (not run, if it is not so or BROKEN), then its SUMS");
        ranIs("link 1 to 2 as 1/0 if 1=2", 0);
        ranIs("link 1/0 to 2 as 1 if 1/0=1", 0);
        ranIs("link 1 to 2 as 1/0", -3);
        ranIs("link 1 to 2/0 as 1", -3);
        ranIs("link 1%0 to 2 as 1", -3);
        ranIs("cut 1/0", -3);
        ranIs("link 1 to 2 as 1000*1000*1000+1", -3);
        ranIs("link 1 to 2 as 1000*1000*1000", -3);
        ranIs("link 1 to 2 as 50", 1);
        ranIs("link 1 to 2 as 51", -3);
        ranIs("link 1 to 2 as 0-1", -3);
        ranIs("link 1 to 7 as 1", -3);
        ranIs("link 0-1 to 2 as 1", -3);
        ranIs("link 1 to 1 as 1", -3);
        ranIs("link 3 to 5 as 7", -3);
        ranIs("link 3 to 5 as 0", 1);
        ranIs("link 1 to 2 as 0", -3);
        ranIs("cut 7", -3);
        ranIs("cut 0-1", -3);
        ranIs("cut 3", -3);
        ranIs("step times 2", 2);
        ranIs("step times 3", -3);
        ranIs("step times 3 if waits>0", 2);
        ranIs("step;step;step if waits>0", 2);
    }

    private static void allAsItWas() {
        Due.about("ends it: all is as it was ahead of it");
        String[] texts = {"link 1 to 2 as 50;step times 2;cut 2;step times 20;cut 9", "link 4 to 5 as 1;link 4 to 5 as 1",
            "cut 2;cut 2", "link 0 to 1 as 0;link 1/0 to 1 as 1", "step times 20"};
        int[] clauses = {3, 1, 1, 1, 0};
        for (int i = 0; i < texts.length; i++) {
            Counted x = Scenes.asking();
            int undone = x.count(5);
            String before = Scenes.looks(x);
            Due.is("orders " + texts[i], Due.orders(x, texts[i]), -3);
            Due.is("stopped by " + texts[i], x.stopped(), clauses[i]);
            Scenes.same(texts[i], x, before);
            Due.is("what can be undone", x.count(5), undone);
            Due.is("the latest was a link", x.undo(), 0);
            Due.is("it cost", x.between(1, 2, 0), 1);
        }
        Counted x = Scenes.crowded(398);
        String before = Scenes.looks(x);
        Due.is("room for one, none for two", Due.orders(x, "link 3 to 5 as 1;link 4 to 5 as 1"), -3);
        Due.is("at the second", x.stopped(), 1);
        Due.is("refused by -3, not -5", x.count(9) * 10 + x.count(10), 10);
        Scenes.same("no room", x, before);
        Due.is("to the last place", Due.orders(x, "link 3 to 5 as 1"), 1);
        Due.is("400 wait", x.count(2), 400);
    }
}
