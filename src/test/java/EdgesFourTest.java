/** The boundaries of what is worked out on paper (Terms III), and those that Terms IV names: days, rows, images. */
public final class EdgesFourTest {
    private static final long WHOLE = 1000000000000L;

    private EdgesFourTest() {
    }

    public static void main(String[] args) {
        paths();
        loops();
        leasts();
        quietAtOnce();
        quietAtMost();
        quietByWhatIsThen();
        compared();
        fewOfNone();
        fewCut();
        canBe();
        asked();
        draws();
        daysOfEachKind();
        daysIfTheyCanBe();
        daysOnPaper();
        rowsByThrees();
        rowsWithBlots();
        rowsAtMost();
        imagesKeep();
        imagesKeepNot();
        imagesStay();
        Due.closes("EdgesFourTest");
    }

    /** All seven in a row, each link costs 50, all told. */
    private static Counted longRow() {
        Counted x = new Counted();
        Due.type(x, 0, 1, 50, 1, 2, 50, 2, 3, 50, 3, 4, 50, 4, 5, 50, 5, 6, 50);
        x.row();
        Scenes.rest(x);
        return x;
    }

    private static void paths() {
        Due.about("PATH: from a ROUTER by SUCCESSORS");
        Counted x = longRow();
        for (int i = 0; i <= 6; i++) {
            Due.is("the longest way without a loop", x.path(6, i), 6 - i);
        }
        Due.is("it has ended", x.path(6, 7), -1);
        x.link(0, 1, 0);
        Due.is("an active one has the successor that it had", x.path(6, 6), 0);
        Counted y = Scenes.stuck();
        Due.is("3 by 1", y.path(3, 1), 1);
        Due.is("1 by 2", y.path(3, 2), 2);
        Due.is("2 by the goal, though there is no link any more", y.path(3, 3), 0);
        Due.is("it has ended", y.path(3, 4), -1);
    }

    /** 2 is cut before 1 heard that the goal is lost: 2 takes what 1 has of it. */
    private static Counted looped() {
        Counted x = new Counted();
        x.link(0, 2, 1);
        x.step();
        x.link(2, 1, 3);
        x.link(0, 2, 0);
        x.step();
        x.cut(2);
        Scenes.steps(x, 0, 1, 0);
        return x;
    }

    private static void loops() {
        Due.about("A LOOP: ROUTERS that come to themselves again so");
        Counted x = looped();
        Due.is("1 and 2", x.loops(), 6);
        for (int i = 0; i <= 7; i++) {
            Due.is("around and around", x.path(1, i), 1 + i % 2);
        }
        Due.is("beyond 7", x.path(1, 8), -1);
        Due.law(x, "ranks 2;ranks 1 if to=4;ranks 0 if to=5");
        x.force(0);
        x.link(4, 2, 1);
        x.step();
        x.link(4, 5, 1);
        x.step();
        Due.is("5 by 4", x.path(5, 1), 4);
        Due.is("4 by 2", x.path(5, 2), 2);
        Due.is("those that only lead there are none of it", x.loops(), 6);
        Due.is("a row has none", longRow().loops(), 0);
    }

    private static void leasts() {
        Due.about("LEAST: the least sum of what LINKS COST from a ROUTER to the GOAL");
        Counted x = longRow();
        for (int r = 0; r < 7; r++) {
            Due.is("the farthest there is", x.least(r), 50 * r);
        }
        x.link(6, 0, 50);
        int[] due = {0, 50, 100, 150, 150, 100, 50};
        for (int r = 0; r < 7; r++) {
            Due.is("by both sides, though nobody has heard", x.least(r), due[r]);
        }
        Due.is("what is known is another thing", x.router(6, 0), 300);
        x.link(3, 4, 0);
        x.link(0, 1, 0);
        Due.is("no way", x.least(3), 9999);
        Due.is("no way", x.least(1), 9999);
        Due.is("a way", x.least(4), 150);
        int[][] rows = {{0, 1, 2, 3, 4, 5, 6}, {0, 6, 5, 4, 3, 2, 1}, {0, 3, 6, 2, 5, 1, 4}};
        for (int[] row : rows) {
            Counted y = new Counted();
            for (int i = 0; i < 7; i++) {
                for (int k = i + 1; k < 7; k++) {
                    y.link(row[i], row[k], k == i + 1 ? 1 : 50);
                }
            }
            for (int i = 0; i < 7; i++) {
                Due.is("many small ones", y.least(row[i]), i);
            }
        }
    }

    private static void quietAtOnce() {
        Due.about("QUIET: how many STEPS till no MESSAGE waits");
        Counted x = new Counted();
        Due.is("nothing waits", x.quiet(), 0);
        Due.is("then", x.then(6), 9999);
        Due.is("the goal", x.then(0), 0);
        Counted y = Scenes.stuck();
        Due.is("quiet, though three are active", y.quiet(), 0);
        Due.is("as it is", y.then(1), 27);
        x.link(5, 6, 1);
        Due.is("two", x.quiet(), 2);
        Counted z = Scenes.row();
        z.link(0, 1, 2);
        Scenes.routerIs("its bound is another one", z, 1, 2, 1);
        Due.is("the distance, not the bound", z.then(1), 2);
        Scenes.rest(z);
        Scenes.routerIs("its bound is another one yet", z, 1, 2, 1);
    }

    /** 396 wait, those from 1 come last: 396 steps and more, a few more than 999 in all. */
    private static Counted longQuiet() {
        Counted x = new Counted();
        x.link(0, 1, 5);
        for (int r = 2; r < 7; r++) {
            x.link(1, r, 10);
        }
        for (int r = 2; r < 7; r++) {
            x.link(r, r == 6 ? 2 : r + 1, 50);
        }
        Scenes.rest(x);
        for (int i = 0; i < 66; i++) {
            x.link(0, 1, 6 - i % 2);
        }
        Due.law(x, "ranks 1 if from=1");
        x.force(0);
        return x;
    }

    private static void quietAtMost() {
        Due.about("how many STEPS, 999 at most (NONE: more, or one can't be)");
        Counted x = longQuiet();
        int steps = 66 + 66 * 5 * 4;
        for (int i = 1; i <= (steps - 1001) / 20; i++) {
            Due.orders(x, "step times 20");
        }
        int left = steps - (steps - 1001) / 20 * 20;
        while (left > 1000) {
            x.step();
            left--;
        }
        Due.is("a thousand are left", x.quiet(), -1);
        Due.is("so it is not known how it is then", x.then(1), -1);
        Due.is("compared, too", x.compare(0), -1);
        x.step();
        Due.is("999 are left", x.quiet(), 999);
        Due.is("then", x.then(1), 5);
        Due.is("compared", x.compare(0), 999);
        x.step();
        Due.is("998 are left", x.quiet(), 998);
        Counted y = Scenes.crowded(400);
        Due.law(y, "ranks 1;ranks 0 if to=2");
        y.force(0);
        Due.is("one can't be", y.quiet(), -1);
        Due.is("nor is it known how it is then", y.then(0), -1);
        Due.is("refused are they not", y.count(10), 0);
    }

    private static void quietByWhatIsThen() {
        Due.about("(On paper:)");
        Counted x = Scenes.asking();
        String before = Scenes.looks(x);
        int undone = x.count(5);
        Due.is("queries and replies", x.quiet(), 6);
        Due.is("then", x.then(3), 12);
        Due.is("compared", x.compare(-1), 6);
        x.days(3, 60);
        x.least(3);
        x.ask(0);
        x.few(3, 30);
        Scenes.same("on paper", x, before);
        Due.is("on paper", x.count(5), undone);
        Counted y = new Counted();
        y.link(0, 1, 5);
        y.terms(0, 998);
        Due.law(y, "ranks 0;ranks 1 if time=999 and from=1");
        y.force(0);
        Due.is("the time goes on on paper", y.quiet(), 3);
        Due.is("but not here", y.count(13), 998);
    }

    private static void compared() {
        Due.about("COMPARED: QUIET by a LAW in place of that in FORCE (NONE: none)");
        Counted x = longQuiet();
        Due.is("one can't be in the order of age", x.compare(-1), -1);
        Due.is("the law in force stays", x.count(12), 0);
        Due.is("no such law", x.compare(1), -1);
        Due.is("no such law", x.compare(-2), -1);
        Due.is("no such law", x.compare(Integer.MAX_VALUE), -1);
        Due.is("no such law", x.compare(Integer.MIN_VALUE), -1);
        Counted y = Scenes.asking();
        for (int i = 0; i < 6; i++) {
            Due.is("not yet", y.compare(i), -1);
            Due.law(y, "ranks " + i);
            Due.is("each of six", y.compare(i), 6);
        }
        Due.is("refused are they not", y.count(7) + y.count(8), 0);
    }

    private static void fewOfNone() {
        Due.about("FEW: the chance, of 1,000,000,000,000 parts, that of n messages .. fewer than k do");
        Counted x = new Counted();
        for (int slips = 0; slips <= 10; slips++) {
            x.terms(1, slips);
            Due.is("none is sent", x.few(1, 0), WHOLE);
            Due.is("none is sent", x.few(20, 0), WHOLE);
            Due.is("none of one", x.few(1, 1), WHOLE / 10 * (10 - slips));
            Due.is("fewer than two of one", x.few(2, 1), WHOLE);
        }
        Due.is("all slip", x.few(20, 19), WHOLE);
        Due.is("all slip", x.few(20, 20), 0);
        Due.is("all slip", x.few(20, 99), 0);
        x.terms(1, 0);
        Due.is("none slips", x.few(1, 99), WHOLE);
        Due.is("none slips", x.few(20, 99), WHOLE);
    }

    private static void fewCut() {
        Due.about("each part times the rest by ten and times SLIPS by ten (one more), both cut");
        Counted x = new Counted();
        for (int slips = 1; slips < 10; slips++) {
            x.terms(1, slips);
            long stays = WHOLE;
            long[] parts = {WHOLE, 0};
            for (int n = 1; n <= 99; n++) {
                stays = stays * (10 - slips) / 10;
                parts[1] = parts[1] * (10 - slips) / 10 + parts[0] * slips / 10;
                parts[0] = parts[0] * (10 - slips) / 10;
                if (n % 7 == 1 || n > 97) {
                    Due.is("none of " + n + " by " + slips, x.few(1, n), stays);
                    Due.is("one of " + n + " by " + slips, x.few(2, n), parts[0] + parts[1]);
                }
            }
        }
        x.terms(1, 5);
        Due.is("half of it, forty times: cut to 0", x.few(1, 40), 0);
        Due.is("a little is left", x.few(1, 39), 1);
    }

    private static void canBe() {
        Due.about("IT CAN BE: ROUTERS of which all that was SEEN is so");
        Counted x = Scenes.asking();
        Due.is("nothing was seen", x.canBe(), 127);
        x.seen(1, 1);
        Due.is("2 alone is active", x.canBe(), 4);
        x.seen(2, 2);
        x.seen(0, 2);
        x.seen(3, 1);
        Due.is("all four facts", x.canBe(), 4);
        x.seen(3, 1);
        Due.is("one twice", x.canBe(), 4);
        x.seen(3, 2);
        Due.is("both can't be", x.canBe(), 0);
        x.forget();
        Due.is("all again", x.canBe(), 127);
    }

    private static void asked() {
        Due.about("To ASK: the FACT by which of these the most that are alike are as few as can be; the lowest");
        Counted x = new Counted();
        Due.is("all facts are alike: the lowest", x.ask(0), 0);
        Due.is("all are left", x.ask(1), 7);
        x.link(0, 1, 1);
        x.step();
        // Neighbours 1,1,0,0,0,0,0: five alike; active: seven; out: seven; successors: six without.
        Due.is("how many neighbours", x.ask(0), 0);
        Due.is("five are left", x.ask(1), 5);
        x.seen(0, 1);
        // Of 0 and 1: both have a neighbour, both are passive, none is out; none and 0 are their successors.
        Due.is("the successor", x.ask(0), 3);
        Due.is("one is left, without a successor, too", x.ask(1), 1);
        x.seen(3, 0);
        Due.is("one it can be: the lowest fact", x.ask(0), 0);
        Due.is("one is left", x.ask(1), 1);
        x.seen(3, 1);
        Due.is("it can be none", x.ask(0), -1);
        Due.is("it can be none", x.ask(1), -1);
        Counted star = new Counted();
        for (int r = 1; r < 7; r++) {
            star.link(0, r, r);
        }
        star.seen(0, 6);
        Due.is("the goal alone: the lowest fact", star.ask(0), 0);
        Due.is("one is left, though no other one is like it", star.ask(1), 1);
        x.forget();
        for (int what : new int[] {-1, 2, Integer.MIN_VALUE, Integer.MAX_VALUE}) {
            Due.is("no such what", x.ask(what), -1);
        }
    }

    private static long next(long s) {
        return (s * 1103 + 12345) % 1000003;
    }

    private static void draws() {
        Due.about("s is the SEED (0 .. 1,000,000); a DRAW of m: s becomes (s times 1103 and 12345) modulo 1,000,003");
        Counted x = new Counted();
        int[] bad = {-1, 1000001, 1000003, Integer.MIN_VALUE, Integer.MAX_VALUE};
        for (int seed : bad) {
            Due.is("no such seed", x.days(seed, 1), -1);
        }
        Due.is("none are kept", x.drawn(0, 0), -1);
        for (int n : new int[] {0, 61, -1, Integer.MIN_VALUE, Integer.MAX_VALUE}) {
            Due.is("not so many", x.days(0, n), -1);
        }
        Due.is("refused by -1", x.count(7), 10);
        for (int seed : new int[] {0, 1, 999999, 1000000}) {
            Model m = new Model();
            for (int n : new int[] {1, 2, 59, 60}) {
                Due.is("days(" + seed + ", " + n + ")", x.days(seed, n), m.days(seed, n));
                for (int r = 0; r < 7; r++) {
                    Due.is("drawn(" + r + ", 0)", x.drawn(r, 0), m.drawn(r, 0));
                    Due.is("drawn(" + r + ", 2)", x.drawn(r, 2), m.drawn(r, 2));
                }
            }
        }
    }

    /** A seed whose first four draws are as they should be; -1 stands for any. */
    private static int seedOf(int first, int second, int third, int last) {
        for (int seed = 0; seed <= 1000000; seed++) {
            long a = next(seed);
            long b = next(a);
            long c = next(b);
            long d = next(c);
            boolean fits = (first < 0 || a % 7 == first) && (second < 0 || b % 7 == second) && (third < 0 || c % 12 == third);
            if (fits && d % 8 == last) {
                return seed;
            }
        }
        throw new IllegalStateException("no such seed");
    }

    private static void daysOfEachKind() {
        Due.about("at 0, 1 (the last DRAW) the LINK between the first two COSTS the third then (0: none), at 2 .. 6 a STEP, at 7 the first is CUT");
        Counted x = Scenes.asking();
        for (int last = 0; last < 2; last++) {
            x.days(seedOf(0, 1, 11, last), 1);
            Due.is("1 goes by the goal: 11", x.drawn(1, 0), 11);
            x.days(seedOf(0, 1, 0, last), 1);
            Due.is("no link: 1 asks", x.drawn(1, 1), 1);
            Due.is("it is FAR", x.drawn(1, 0), 9999);
            Due.is("its successor is what it was", x.drawn(1, 2), 0);
            Due.is("both told each other", x.days(seedOf(5, 6, 1, last), 1), 4);
        }
        for (int last = 2; last < 7; last++) {
            Due.is("a step: a query and a reply wait", x.days(seedOf(-1, -1, -1, last), 1), 2);
            Due.is("2 is active yet", x.drawn(2, 1), 1);
        }
        Due.is("2 is cut", x.days(seedOf(2, -1, -1, 7), 1), 4);
        Due.is("it is passive", x.drawn(2, 1), 0);
        Due.is("it has no successor", x.drawn(2, 2), -1);
    }

    private static void daysIfTheyCanBe() {
        Due.about("each if it can be");
        Counted x = Scenes.asking();
        int[] seeds = {seedOf(3, 3, 5, 0), seedOf(1, 2, 10, 1), seedOf(4, 5, 0, 0), seedOf(1, -1, -1, 7), seedOf(0, -1, -1, 7)};
        for (int seed : seeds) {
            Due.is("it can't be, so nothing comes of it", x.days(seed, 1), 2);
            Due.is("nor is it refused", x.status(), 0);
        }
        Due.law(x, "bars");
        x.force(0);
        Due.is("barred", x.days(seedOf(5, 6, 1, 0), 1), 2);
        Counted y = new Counted();
        Due.is("no step without a message", y.days(seedOf(-1, -1, -1, 4), 1), 0);
        Counted z = Scenes.crowded(400);
        Due.is("no room", z.days(seedOf(4, 5, 1, 0), 1), 400);
        int[] counts = {7, 8, 9, 10, 11};
        for (int what : counts) {
            Due.is("none of these was refused", x.count(what) + y.count(what) + z.count(what), 0);
        }
    }

    private static void daysOnPaper() {
        Due.about("DAYS with a SEED, n 1 .. 60, on paper");
        Counted x = Scenes.asking();
        String before = Scenes.looks(x);
        int undone = x.count(5);
        for (int seed = 0; seed < 30; seed++) {
            x.days(seed, 60);
        }
        Scenes.same("on paper", x, before);
        Due.is("on paper", x.count(5), undone);
    }

    private static void rowsByThrees() {
        Due.about("A ROW: the TAPE's bytes by threes: two ROUTERS, what the LINK COSTS: it changes so");
        Counted x = new Counted();
        Due.type(x, 6, 0, 50, 0, 6, 49, 6, 0, 0, 5, 6, 1);
        Due.is("each is a change", x.row(), 4);
        Due.is("one is left", x.count(0), 1);
        Due.is("no blots", x.blots(), 0);
        Scenes.messageIs("the one told first sends first", x, 0, 0, 5, 6, 9999);
        Due.type(x, 6, 5, 2);
        Due.is("one", x.row(), 1);
        Due.is("it costs", x.between(5, 6, 0), 2);
    }

    private static void rowsWithBlots() {
        Due.about("one that can't be (REFUSED by whatever), one within which the TAPE ends is a BLOT: nothing");
        int[][] bad = {{1, 1, 1}, {7, 1, 1}, {1, 7, 1}, {255, 1, 1}, {1, 255, 1}, {1, 2, 51}, {1, 2, 255}, {1, 2, 0}, {3, 4, 5},
            {4, 3, 5}, {1}, {1, 2}, {0}, {0, 0}, {0, 0, 0}, {32, 32, 32}, {1, 2, 9}};
        for (int[] bytes : bad) {
            Counted x = new Counted();
            x.link(3, 4, 5);
            Due.law(x, "bars if far=9");
            x.force(0);
            String before = Scenes.looks(x);
            Due.type(x, bytes);
            Due.is("none changed", x.row(), 0);
            Due.is("one blot", x.blots(), 1);
            Scenes.same("a blot", x, before);
            Due.is("it is not refused", x.status(), 0);
            Due.is("nothing can be undone behind it", x.count(5), 0);
            Due.is("the tape is empty", x.count(6), 0);
        }
        Counted y = Scenes.crowded(400);
        Due.type(y, 4, 5, 1);
        Due.is("no room", y.row(), 0);
        Due.is("a blot", y.blots(), 1);
        Due.is("400 wait", y.count(2), 400);
        for (int r = 0; r < 5; r++) {
            Counted x = new Counted();
            int[] bytes = {1, 2, 3, 4, 5, 6, 0, 0};
            Due.type(x, java.util.Arrays.copyOf(bytes, 4 + r));
            Due.is("so many wholes", x.row(), r < 2 ? 1 : 2);
            Due.is("the rest is a blot", x.blots(), r == 2 ? 0 : 1);
        }
    }

    private static void rowsAtMost() {
        Due.about("A ROW: the TAPE's bytes by threes");
        Counted x = new Counted();
        int[] bytes = new int[400];
        for (int i = 0; i < 400; i++) {
            bytes[i] = i % 3 == 0 ? 5 : i % 3 == 1 ? 6 : i / 3 % 2 == 0 ? 1 : 2;
        }
        Due.type(x, bytes);
        Due.is("400 bytes: 133 threes", x.row(), 133);
        Due.is("and one byte", x.blots(), 1);
        Due.is("the tape is empty", x.count(6), 0);
        Due.is("refused", x.row(), -6);
        Due.is("its blots stay", x.blots(), 1);
    }

    private static void imagesKeep() {
        Due.about("IMAGES 0, 1 keep all but ..");
        for (int k = 0; k < 2; k++) {
            Counted x = Scenes.asking();
            Due.law(x, "ranks 7");
            x.force(0);
            x.terms(0, 900);
            x.terms(1, 7);
            x.terms(2, 8);
            x.seen(0, 2);
            String before = Scenes.looks(x);
            long few = x.few(3, 9);
            Due.is("kept", x.image(k), 0);
            x.cut(2);
            x.link(0, 1, 0);
            x.step();
            Due.law(x, "ranks 8");
            x.force(1);
            x.terms(0, 3);
            x.terms(1, 3);
            x.terms(2, 3);
            x.forget();
            x.seen(1, 1);
            Due.is("back", x.back(k), 0);
            Scenes.same("back", x, before);
            Due.is("slips", x.few(3, 9), few);
            Due.is("the second law is no more", x.force(1), -2);
        }
    }

    private static void imagesKeepNot() {
        Due.about("all but the TAPE, FAULT, BLOTS, where ORDERS stopped, what can be undone (nothing, behind back()), the latest DAYS");
        Counted x = Scenes.asking();
        Due.law(x, "ranks");
        Due.type(x, 1, 1);
        x.row();
        Due.orders(x, "step if 1=2;cut 0");
        x.days(seedOf(2, -1, -1, 7), 1);
        x.link(5, 6, 1);
        x.image(0);
        Due.law(x, "bars x");
        Due.type(x, 1, 1, 1, 1);
        x.row();
        Due.orders(x, "cut 0");
        x.days(seedOf(0, 1, 11, 0), 1);
        x.link(5, 6, 2);
        Due.type(x, "abc");
        x.link(9, 9, 9);
        int refused = x.count(7);
        Due.is("back", x.back(0), 0);
        Due.is("the tape", x.count(6), 3);
        Due.is("the fault", x.fault(), -1);
        Due.is("the blots", x.blots(), 2);
        Due.is("where orders stopped", x.stopped(), 0);
        Due.is("nothing can be undone", x.count(5), 0);
        Due.is("nothing can be undone", x.undo(), -3);
        Due.is("the latest days", x.drawn(1, 0), 11);
        Due.is("how many were refused", x.count(7), refused);
        Due.is("the link is as it was", x.between(5, 6, 0), 1);
        x.law();
        Due.is("the tape is read", x.fault(), 0);
        x.back(0);
        Due.is("the fault of the latest", x.fault(), 0);
    }

    private static void imagesStay() {
        Due.about("(IMAGES stay)");
        Counted x = new Counted();
        x.link(1, 2, 3);
        x.image(0);
        x.link(1, 2, 4);
        x.image(1);
        for (int i = 0; i < 3; i++) {
            x.link(1, 2, 5);
            Due.is("back", x.back(0), 0);
            Due.is("it costs", x.between(1, 2, 0), 3);
            x.link(1, 2, 5);
            Due.is("back", x.back(1), 0);
            Due.is("it costs", x.between(1, 2, 0), 4);
        }
        x.back(0);
        x.image(1);
        x.link(1, 2, 5);
        x.back(1);
        Due.is("kept anew", x.between(1, 2, 0), 3);
    }
}
