/** Promises 6, 7, 10, 12, 14: the tape, laws, faults, what is in force; both languages at their edges. */
public final class TextsTest {
    private TextsTest() {
    }

    public static void main(String[] args) {
        tape();
        faultsOfLaws();
        faultsOfOrders();
        limits();
        faultStays();
        laws();
        force();
        ranks();
        bars();
        Due.closes("TextsTest");
    }

    private static void tape() {
        Counted x = new Counted();
        for (int i = 1; i <= 20; i++) {
            Due.is("feed", x.feed(0, 0, 0, 0, 0), 20 * i);
        }
        Due.is("feed beyond 400", x.feed(0, 0, 0, 0, 0), -1);
        Due.is("nothing came", x.count(6), 400);
        Due.is("end beyond it", x.end(401), -1);
        Due.is("end below 0", x.end(-1), -1);
        Due.is("end at it", x.end(400), 400);
        Due.is("end", x.end(381), 381);
        Due.is("feed just beyond", x.feed(0, 0, 0, 0, 0), -1);
        Due.is("end", x.end(380), 380);
        Due.is("feed just within", x.feed(0, 0, 0, 0, 0), 400);
        Due.is("end", x.end(0), 0);
        Due.is("nothing was refused", x.count(7) + x.count(10), 0);
        Due.is("nor is it a status", x.status(), 0);
        // 6 and 1 cost 9, by the highest byte first; a byte above 127 is no number below 0.
        x.feed(0x060109ff, 0x00010a00, 0, 0, 0);
        x.end(7);
        Due.is("row", x.row(), 1);
        Due.is("blots", x.blots(), 2);
        Due.is("it costs", x.between(6, 1, 0), 9);
    }

    private static void faultOf(boolean orders, String text, int want) {
        Counted x = new Counted();
        Due.type(x, text);
        int answer = orders ? x.orders() : x.law();
        Due.is("fault of " + text, x.fault(), want);
        Due.is("it is refused: " + text, answer == -6 ? 1 : 0, want < 0 ? 0 : 1);
        Due.is("the tape is empty behind " + text, x.count(6), 0);
    }

    private static void faultsOfLaws() {
        String[] fine = {"ranks 1", "ranks1", "  ranks   1  ", "ranks 1000", "ranks 01000", "ranks [1]", "bars", "bars;bars",
            "bars if 1=1", "bars if not not 1<2 and(1>2 or 3=3)", "ranks kind+from-to*far/waits%time+mood if mood=1",
            "bars if ([1]=1)", "bars if not(1=1)and not 2>1or 1<0"};
        for (String text : fine) {
            faultOf(false, text, -1);
        }
        faultOf(false, "", 0);
        faultOf(false, "   ", 3);
        faultOf(false, "ranks", 5);
        faultOf(false, "ranks  ", 7);
        faultOf(false, "Ranks 1", 0);
        faultOf(false, "ranksz 1", 0);
        faultOf(false, "ranks{ 1", 5);
        faultOf(false, "ranks` 1", 5);
        faultOf(false, "ranks 1:", 7);
        faultOf(false, " rank 1", 1);
        faultOf(false, "step", 0);
        faultOf(false, "ranks 1001", 6);
        faultOf(false, "ranks 99999999999999999999", 6);
        faultOf(false, "ranks 18446744073709551617", 6);
        faultOf(false, "ranks 1;", 8);
        faultOf(false, "ranks 1; ;", 9);
        faultOf(false, "ranks 1 2", 8);
        faultOf(false, "ranks - 1", 6);
        faultOf(false, "ranks 1 -", 9);
        faultOf(false, "ranks (1)", 6);
        faultOf(false, "ranks [1)", 8);
        faultOf(false, "ranks 1 times 2", 8);
        faultOf(false, "ranks 1\t", 7);
        faultOf(false, "ranks 1\u00e9", 7);
        faultOf(false, "bars 1", 5);
        faultOf(false, "bars if", 7);
        faultOf(false, "bars if 1", 9);
        faultOf(false, "bars if not", 11);
        faultOf(false, "bars if 1 = 1 = 1", 14);
        faultOf(false, "bars if (1)", 10);
        faultOf(false, "bars if [1 = 1]", 11);
        faultOf(false, "bars if (1 = 1", 14);
        faultOf(false, "bars if 1 = 1)", 13);
        faultOf(false, "bars if 1 = 1 or", 16);
        faultOf(false, "bars if 1 < > 2", 12);
        faultOf(false, "bars if 1 = 1 if 1 = 1", 14);
        for (String word : new String[] {"done", "latest", "distance", "active", "if", "or"}) {
            faultOf(false, "ranks " + word, 6);
        }
    }

    private static void faultsOfOrders() {
        String[] fine = {"step", "link 1 to 2 as 3", "link 1 to 2 as 3 times 20 if time = 0", "step times 1", "step times 020",
            "cut distance 3", "cut active 06", "step if latest < done + waits", "link [1]to[2]as[3]"};
        for (String text : fine) {
            faultOf(true, text, -1);
        }
        faultOf(true, "", 0);
        faultOf(true, "    ", 4);
        faultOf(true, "ranks 1", 0);
        faultOf(true, "step 1", 5);
        faultOf(true, "step times", 10);
        faultOf(true, "step times 0", 11);
        faultOf(true, "step times 21", 11);
        faultOf(true, "step times [1]", 11);
        faultOf(true, "step times 2 times 2", 13);
        faultOf(true, "step if 1=1 times 2", 12);
        faultOf(true, "link 1 to 2", 11);
        faultOf(true, "link 1, 2", 6);
        faultOf(true, "link 1 as 2", 7);
        faultOf(true, "link 1 to 2 to 3", 12);
        faultOf(true, "link to 1 as 1", 5);
        faultOf(true, "cut", 3);
        faultOf(true, "cut distance", 12);
        faultOf(true, "cut distance x", 13);
        faultOf(true, "cut distance 7", 13);
        faultOf(true, "cut active 7", 11);
        faultOf(true, "cut active [1]", 11);
        for (String word : new String[] {"kind", "from", "to", "far", "mood"}) {
            faultOf(true, "cut " + word, 4);
        }
    }

    private static void limits() {
        faultOf(false, "ranks 1" + "+1".repeat(49), -1);
        faultOf(false, "ranks 1" + "+1".repeat(50), 106);
        faultOf(false, "ranks 1" + "+1".repeat(29) + ";ranks 1" + "+1".repeat(19), -1);
        faultOf(false, "ranks 1" + "+1".repeat(29) + ";ranks 1" + "+1".repeat(20), 112);
        faultOf(false, "ranks 1" + "+1".repeat(49) + "+x", 106);
        faultOf(true, "cut " + "active 1+".repeat(25) + "1+".repeat(24) + "1", -1);
        faultOf(true, "cut " + "active 1+".repeat(25) + "1+".repeat(24) + "1+1", 279);
        faultOf(true, "step times 5 if " + "1+".repeat(48) + "1=1", -1);
        faultOf(true, "step times 5 if " + "1+".repeat(48) + "1=time", -1);
        faultOf(true, "step times 5 if " + "1+".repeat(48) + "1=1+active 9", 116);
        faultOf(false, "ranks " + "[".repeat(8) + "1" + "]".repeat(8), -1);
        faultOf(false, "ranks " + "[".repeat(9) + "1" + "]".repeat(9), 14);
        faultOf(false, "bars if (((((" + "[[[1]]]=1)))))", -1);
        faultOf(false, "bars if (((((" + "[[[[1]]]]=1)))))", 16);
        faultOf(false, "bars if ((((((((1=1))))))))", -1);
        faultOf(false, "bars if (((((((((1=1)))))))))", 16);
        faultOf(false, "bars if (1=1)" + "and(1=1)".repeat(10), -1);
        faultOf(false, "bars if " + "not ".repeat(97) + "1=1", -1);
        faultOf(false, "bars" + ";bars".repeat(11), -1);
        faultOf(false, "bars" + ";bars".repeat(12), 60);
        faultOf(false, "bars" + ";bars".repeat(11) + "; 5", 61);
        faultOf(false, "bars" + ";bars".repeat(11) + ";", 60);
        faultOf(true, "step if 1=2" + ";step if 1=2".repeat(12), 144);
    }

    private static void faultStays() {
        Counted x = new Counted();
        Due.law(x, "ranks");
        Due.is("fault", x.fault(), 5);
        x.row();
        Due.type(x, 1, 2, 3);
        x.row();
        Due.is("fault of the latest text", x.fault(), 5);
        Due.orders(x, "cut 9");
        Due.is("one that can't be has none", x.fault(), -1);
        Due.orders(x, "cut !");
        Due.is("fault", x.fault(), 4);
        x.image(0);
        Due.law(x, "ranks 1");
        Due.is("none", x.fault(), -1);
        x.back(0);
        Due.is("images do not keep it", x.fault(), -1);
    }

    private static void laws() {
        Counted x = new Counted();
        x.link(1, 2, 3);
        for (int i = 0; i < 6; i++) {
            Due.is("law", Due.law(x, "ranks " + i), i);
        }
        Due.is("it leaves what can be undone", x.count(5), 1);
        Due.law(x, "ranks");
        Due.is("no room goes ahead of a fault", x.status(), -5);
        Due.is("it was not read", x.fault(), -1);
        Due.is("the tape is empty all the same", x.count(6), 0);
        Due.is("no room goes ahead of an empty tape", x.law(), -5);
        Due.is("laws", x.count(4), 6);
        Due.is("no room", x.count(10), 2);
    }

    private static void force() {
        Counted x = new Counted();
        Due.law(x, "ranks 4");
        Due.law(x, "ranks 5");
        x.link(1, 2, 3);
        Due.is("none is in force at first", x.message(0, 4), 0);
        Due.is("which was", x.force(0), -1);
        Due.is("in force", x.message(0, 4), 4);
        Due.is("which was", x.force(1), 0);
        Due.is("in force", x.message(0, 4), 5);
        Due.is("no such law", x.force(2), -2);
        Due.is("no such law", x.force(-2), -2);
        Due.is("it stays", x.count(12), 1);
        Due.is("which was", x.force(-1), 1);
        Due.is("none", x.message(0, 4), 0);
        Due.is("it leaves what can be undone", x.undo(), 0);
    }

    private static void rankOf(String law, int want) {
        Counted x = new Counted();
        x.link(3, 5, 7);
        x.terms(0, 17);
        x.terms(2, 6);
        Due.is("law " + law, Due.law(x, law), 0);
        x.force(0);
        Due.is("rank by " + law, x.message(0, 4), want);
    }

    private static void ranks() {
        rankOf("ranks kind", 0);
        rankOf("ranks from", 3);
        rankOf("ranks to", 5);
        rankOf("ranks far/200", 49);
        rankOf("ranks far", 99);
        rankOf("ranks 99", 99);
        rankOf("ranks 100", 99);
        rankOf("ranks 0-5", 0);
        rankOf("ranks waits", 2);
        rankOf("ranks time", 17);
        rankOf("ranks mood", 6);
        rankOf("ranks 7-2-1", 4);
        rankOf("ranks 7-[2-1]", 6);
        rankOf("ranks 2+3*4", 14);
        rankOf("ranks 17/5*2", 6);
        rankOf("ranks 17%5", 2);
        rankOf("ranks [0-17]/5+9", 6);
        rankOf("ranks [0-17]%5+9", 7);
        rankOf("ranks 9;ranks 1/0", 9);
        rankOf("ranks 9;ranks 1%0", 9);
        rankOf("ranks 9;ranks 1000*1000*1000/1000/1000/100", 10);
        rankOf("ranks 9;ranks [1000*1000*1000+1]*0+5", 9);
        rankOf("ranks 9;ranks [0-1000*1000*1000]*0+5", 5);
        rankOf("ranks 9;ranks [0-1000*1000*1000-1]*0+5", 9);
        rankOf("ranks 9;ranks 1000*1000*1000*1000*1000*1000*1000", 9);
        rankOf("ranks 7;ranks 8 if 1/0=1", 7);
        rankOf("ranks 7;ranks 8 if not 1/0=1", 7);
        rankOf("ranks 7;ranks 8 if 1=1 or 1/0=1", 8);
        rankOf("ranks 7;ranks 8 if 1/0=1 or 1=1", 7);
        rankOf("ranks 7;ranks 8 if 1=2 and 1/0=1 or 2=2", 8);
        rankOf("ranks 7;ranks 8 if 1=1 and 1/0=1 or 2=2", 7);
        rankOf("ranks 7;ranks 8 if not (1=1 and 1=2)", 8);
        rankOf("ranks 7;ranks 8 if not 1=1 or 1=1", 8);
        rankOf("ranks 7;ranks 8 if 1=1 or 1=1 and 1=2", 8);
        rankOf("ranks 7;ranks 8 if (1=1 or 1=1) and 1=2", 7);
        rankOf("ranks 7;ranks 8 if 2<1", 7);
        rankOf("ranks 7;ranks 8 if 1<1", 7);
        rankOf("ranks 7;ranks 8 if 2>1 and 1<2 and 2=2", 8);
        rankOf("ranks 8;ranks 7;bars", 7);
        rankOf("ranks 8 if from=4", 0);
        rankOf("bars", 0);
    }

    private static void barred(String law, int one, int other, int costs, int want) {
        Counted x = new Counted();
        x.link(5, 6, 9);
        Due.law(x, law);
        x.force(0);
        Due.is("link by " + law, x.link(one, other, costs), want);
    }

    private static void bars() {
        barred("bars", 1, 2, 3, -3);
        barred("bars", 1, 1, 3, -1);
        barred("bars if kind = 0 - 1", 1, 2, 3, -3);
        barred("bars if from = 1 and to = 2", 1, 2, 3, -3);
        barred("bars if from = 1 and to = 2", 2, 1, 3, 0);
        barred("bars if far = 3", 1, 2, 3, -3);
        barred("bars if far = 3", 1, 2, 4, 0);
        barred("bars if far = 0", 5, 6, 0, -3);
        barred("bars if waits = 2", 1, 2, 3, -3);
        barred("bars if waits > 2", 1, 2, 3, 0);
        barred("bars if 1/0 = 1", 1, 2, 3, 0);
        barred("bars if 1/0 = 1;bars;ranks 5", 1, 2, 3, -3);
        barred("ranks 5", 1, 2, 3, 0);
        barred("bars if time = 0 and mood = 0", 1, 2, 3, -3);
    }
}
