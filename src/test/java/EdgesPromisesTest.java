/** The boundaries that the promises name themselves, one by one: numbers that can't be, what is empty, what is full. */
public final class EdgesPromisesTest {
    private static final int LEAST = Integer.MIN_VALUE;
    private static final int MOST = Integer.MAX_VALUE;

    private EdgesPromisesTest() {
    }

    public static void main(String[] args) {
        newObject();
        router();
        between();
        message();
        terms();
        feed();
        end();
        rowAndBlots();
        law();
        orders();
        fault();
        stopped();
        force();
        linkStepCut();
        undoSixteen();
        undoBehindRefusals();
        undoWhatItRestores();
        undoWhatEndsIt();
        path();
        leastAndThen();
        seenAndForget();
        few();
        drawn();
        imageAndBack();
        count();
        refusedBy();
        status();
        statusStays();
        Due.closes("EdgesPromisesTest");
    }

    private static void newObject() {
        Due.about("Promise 1: No links");
        Counted other = Scenes.asking();
        Due.law(other, "bars");
        other.force(0);
        other.seen(0, 0);
        other.image(0);
        other.days(1, 1);
        Due.type(other, "x");
        Counted x = new Counted();
        Due.is("links", x.count(0), 0);
        for (int what = 1; what < 16; what++) {
            Due.is("another object is nothing to it: count(" + what + ")", x.count(what), what == 12 ? -1 : what == 14 ? 1 : 0);
        }
        Due.is("no image", x.back(0), -2);
        Due.is("no days", x.drawn(0, 0), -1);
        Due.is("no path", x.path(1, 1), -1);
        Due.is("all alike", x.canBe(), 127);
        Due.is("the other one is as it was", other.count(0), 3);
    }

    private static void router() {
        Due.about("Promise 2: NONE");
        Counted x = Scenes.stuck();
        for (int r = -2; r < 9; r++) {
            for (int what : new int[] {-1, 8, 9, LEAST, MOST}) {
                Due.is("router(" + r + ", " + what + ")", x.router(r, what), -1);
            }
        }
        for (int what = 0; what < 8; what++) {
            for (int r : new int[] {-1, 7, LEAST, MOST}) {
                Due.is("router(" + r + ", " + what + ")", x.router(r, what), -1);
            }
        }
        Due.is("worse", x.router(1, 6), 1);
        x.cut(1);
        Due.is("WORSE (6: 1, 0; PASSIVE: 0)", x.router(1, 6), 0);
        Due.is("none is out of a passive one", x.router(1, 4), 0);
        Due.is("nothing is owed by a passive one", x.router(1, 5), 0);
    }

    private static void between() {
        Due.about("Promise 3: NONE (one alone; others)");
        Counted x = Scenes.row();
        for (int what = -2; what < 8; what++) {
            for (int r = 0; r < 7; r++) {
                Due.is("one alone", x.between(r, r, what), -1);
            }
            for (int r : new int[] {-1, 7, LEAST, MOST}) {
                Due.is("no such one", x.between(r, 1, what), -1);
                Due.is("no such other one", x.between(1, r, what), -1);
                Due.is("neither", x.between(r, r, what), -1);
            }
            Due.is("what " + what, x.between(1, 2, what) == -1 ? 1 : 0, what < 0 || what > 4 ? 1 : 0);
        }
        Due.is("the least what", x.between(1, 2, LEAST), -1);
        Due.is("the most what", x.between(1, 2, MOST), -1);
        Due.is("what the other one told the one", x.between(3, 2, 1), 2);
        Due.is("not the other way", x.between(2, 3, 1), 3);
    }

    private static void message() {
        Due.about("Promise 4: Of the i-th MESSAGE that waits, the eldest first .. NONE");
        Counted x = new Counted();
        for (int what = -1; what < 6; what++) {
            Due.is("none waits", x.message(0, what), -1);
        }
        x.link(1, 2, 3);
        for (int what = 0; what < 5; what++) {
            for (int i : new int[] {-1, 2, 3, LEAST, MOST}) {
                Due.is("no such message", x.message(i, what), -1);
            }
        }
        for (int what : new int[] {-1, 5, LEAST, MOST}) {
            Due.is("no such what", x.message(0, what), -1);
            Due.is("no such what", x.message(1, what), -1);
        }
        Counted y = Scenes.crowded(400);
        Due.is("the last of 400", y.message(399, 2) >= 0 ? 1 : 0, 1);
        Due.is("beyond", y.message(400, 2), -1);
    }

    private static void terms() {
        Due.about("Promise 5: A TERM: what it was. -1");
        Counted x = new Counted();
        for (int what : new int[] {-1, 3, 4, LEAST, MOST}) {
            for (int value : new int[] {0, 1, -1, LEAST, MOST}) {
                Due.is("no such term", x.terms(what, value), -1);
            }
        }
        int[] most = {999, 10, 9};
        for (int what = 0; what < 3; what++) {
            for (int value : new int[] {-1, most[what] + 1, LEAST, MOST}) {
                Due.is("no such value", x.terms(what, value), -1);
            }
        }
        Due.is("all refused by -1", x.count(7), 37);
        Due.is("a term that becomes what it is", x.terms(1, 1), 1);
        Due.is("is no refusal", x.status(), 0);
    }

    private static void feed() {
        Due.about("Promise 6: Twenty bytes come behind the TAPE, four of each number, the highest first");
        Counted x = new Counted();
        // Three bytes each: 1-2 as 3, 4-5 as 6, and so on over the bounds of the numbers.
        Due.is("twenty", x.feed(0x01020304, 0x05060001, 0x07020408, 0x03050900, 0x06320100), 20);
        Due.is("six threes", x.row(), 6);
        int[][] due = {{1, 2, 3}, {4, 5, 6}, {0, 1, 7}, {2, 4, 8}, {3, 5, 9}, {0, 6, 50}};
        for (int[] d : due) {
            Due.is("it costs", x.between(d[0], d[1], 0), d[2]);
        }
        Due.is("two bytes were left", x.blots(), 1);
        Due.is("bytes above 127", x.feed(0xff01ff02, 0x80808080, -1, LEAST, MOST), 20);
        Due.is("they are no routers", x.row(), 0);
        Due.is("seven", x.blots(), 7);
        for (int i = 1; i <= 20; i++) {
            Due.is("behind what is there", x.feed(i, i, i, i, i), 20 * i);
        }
        Due.is("NONE, if there would be more than 400", x.feed(1, 1, 1, 1, 1), -1);
        Due.is("it is not refused", x.count(7) + x.count(10), 0);
        x.end(381);
        Due.is("401 would be more", x.feed(1, 1, 1, 1, 1), -1);
        x.end(380);
        Due.is("400 are not", x.feed(1, 1, 1, 1, 1), 400);
    }

    private static void end() {
        Due.about("Promise 7: The TAPE has its first n bytes alone: n. NONE, if it has not so many, or n is below 0");
        Counted x = new Counted();
        Due.is("nothing of nothing", x.end(0), 0);
        Due.is("one of nothing", x.end(1), -1);
        x.feed(0x72616e6b, 0x73203120, 0x3f3f3f3f, 0, 0);
        for (int n : new int[] {21, 400, 401, -1, LEAST, MOST}) {
            Due.is("it has not so many", x.end(n), -1);
            Due.is("so it has what it had", x.count(6), 20);
        }
        Due.is("all", x.end(20), 20);
        Due.is("its first", x.end(8), 8);
        Due.is("those that were cut off do not come again", x.end(9), -1);
        Due.is("it is \"ranks 1 \"", x.law(), 0);
        Due.is("nothing then", x.count(6), 0);
        Due.is("not refused", x.count(7), 0);
        x.feed(0, 0, 0, 0, 0);
        Due.is("none of it", x.end(0), 0);
        Due.is("empty", x.row(), -6);
    }

    private static void rowAndBlots() {
        Due.about("Promise 8: -6 the TAPE is empty; Promise 9: the latest row() .. that was not REFUSED (0 ahead of any)");
        Counted x = new Counted();
        Due.is("ahead of any", x.blots(), 0);
        Due.is("empty", x.row(), -6);
        Due.is("a refused one is none", x.blots(), 0);
        Due.type(x, 1, 1, 1, 2, 2, 2, 3);
        Due.is("nothing changed", x.row(), 0);
        Due.is("three", x.blots(), 3);
        Due.is("empty", x.row(), -6);
        Due.is("three yet", x.blots(), 3);
        Due.is("status", x.status(), -6);
        Due.type(x, 1, 2, 3);
        Due.is("one", x.row(), 1);
        Due.is("none", x.blots(), 0);
        Due.is("-6 twice", x.count(11), 2);
        Due.is("no other refusal", x.count(7) + x.count(9) + x.count(10), 0);
    }

    private static void law() {
        Due.about("Promise 10: -5 (ahead of reading it; the TAPE is empty then, too); -6 (blanks alone: FAULT at the end)");
        Counted x = new Counted();
        x.link(1, 2, 3);
        Due.is("empty", x.law(), -6);
        Due.is("its end", x.fault(), 0);
        Due.is("blanks alone", Due.law(x, "   "), -6);
        Due.is("their end", x.fault(), 3);
        Due.is("the tape is empty then", x.count(6), 0);
        Due.is("no law", x.count(4), 0);
        for (int i = 0; i < 6; i++) {
            Due.is("its number", Due.law(x, "bars"), i);
            Due.is("the tape is empty then", x.count(6), 0);
        }
        Due.is("the seventh, with a fault", Due.law(x, "x"), -5);
        Due.is("which is not read", x.fault(), -1);
        Due.is("the tape is empty then, too", x.count(6), 0);
        Due.is("the seventh, of nothing", x.law(), -5);
        Due.is("none is in force by that", x.count(12), -1);
        Due.is("It leaves what can be undone", x.count(5), 1);
        Due.is("undone", x.undo(), 0);
        Due.is("the laws stay", x.count(4), 6);
    }

    private static void orders() {
        Due.about("Promise 11: how many were run. -3 one can't be; -6 (as for law())");
        Counted x = new Counted();
        Due.is("empty", x.orders(), -6);
        Due.is("its end", x.fault(), 0);
        Due.is("blanks alone", Due.orders(x, "  "), -6);
        Due.is("their end", x.fault(), 2);
        Due.is("none was run", Due.orders(x, "step if 1=2"), 0);
        Due.is("no fault", x.fault(), -1);
        Due.is("that is no refusal", x.status(), 0);
        Due.is("one can't be", Due.orders(x, "step"), -3);
        Due.is("the tape is empty then", x.count(6), 0);
        Due.is("a fault behind what could be run: nothing is run", Due.orders(x, "link 1 to 2 as 3;link 1 to 2 as"), -6);
        Due.is("no link", x.count(0), 0);
        for (int i = 0; i < 6; i++) {
            Due.law(x, "bars if far=50");
        }
        Due.is("no room for laws, yet for orders", Due.orders(x, "link 1 to 2 as 3"), 1);
        x.force(5);
        Due.is("barred", Due.orders(x, "link 1 to 2 as 49;link 1 to 2 as 50"), -3);
        Due.is("as it was", x.between(1, 2, 0), 3);
    }

    private static void fault() {
        Due.about("Promise 12: FAULT of the latest law(), orders() that read a TEXT: its place; NONE without");
        Counted x = new Counted();
        Due.is("ahead of any", x.fault(), -1);
        Due.law(x, "bars if");
        Due.is("of a law", x.fault(), 7);
        Due.orders(x, "cut 1 2");
        Due.is("of orders", x.fault(), 6);
        x.row();
        x.link(9, 9, 9);
        x.step();
        Due.is("others leave it", x.fault(), 6);
        Due.orders(x, "cut 1");
        Due.is("orders that can't be have none", x.fault(), -1);
        Due.law(x, "?");
        Due.is("of a law", x.fault(), 0);
        Due.law(x, "bars");
        Due.is("without", x.fault(), -1);
        for (int i = 0; i < 5; i++) {
            Due.law(x, "bars");
        }
        Due.orders(x, "step 5");
        Due.law(x, "bars");
        Due.is("a law that was not read leaves it", x.fault(), 5);
        x.image(0);
        x.back(0);
        Due.is("images, too", x.fault(), 5);
    }

    private static void stopped() {
        Due.about("Promise 13: Which CLAUSE of the latest orders() could not be. NONE");
        Counted x = new Counted();
        Due.is("ahead of any", x.stopped(), -1);
        for (int i = 0; i < 12; i++) {
            Due.is("it can't be", Due.orders(x, "step if 1=2;".repeat(i) + "cut 1" + ";step if 1=2".repeat(11 - i)), -3);
            Due.is("the clause", x.stopped(), i);
        }
        Due.orders(x, "step if 1=2");
        Due.is("all could be", x.stopped(), -1);
        Due.orders(x, "step");
        Due.is("the first", x.stopped(), 0);
        Due.orders(x, "?");
        Due.is("none was run", x.stopped(), -1);
        Due.orders(x, "step if 1=2;step times 3");
        Due.law(x, "?");
        x.cut(1);
        Due.is("of the latest orders", x.stopped(), 1);
    }

    private static void force() {
        Due.about("Promise 14: A LAW is in FORCE (NONE: none): which was. -2");
        Counted x = new Counted();
        x.link(1, 2, 3);
        Due.is("none, as before", x.force(-1), -1);
        Due.is("that is no refusal", x.status(), 0);
        for (int law : new int[] {0, 1, 5, 6, -2, LEAST, MOST}) {
            Due.is("no such law", x.force(law), -2);
        }
        Due.is("refused by -2", x.count(8), 7);
        Due.law(x, "ranks 1");
        Due.law(x, "ranks 2");
        Due.is("none was", x.force(1), -1);
        Due.is("1 was", x.force(0), 1);
        Due.is("0 was", x.force(0), 0);
        Due.is("no such law", x.force(2), -2);
        Due.is("so it stays", x.count(12), 0);
        Due.is("0 was", x.force(-1), 0);
        Due.is("It leaves what can be undone", x.count(5), 1);
    }

    private static void linkStepCut() {
        Due.about("Promises 15, 16, 17");
        Counted x = new Counted();
        for (int bad : new int[] {-1, 51, LEAST, MOST}) {
            Due.is("-1 (0 .. 50)", x.link(1, 2, bad), -1);
        }
        for (int bad : new int[] {-1, 7, LEAST, MOST}) {
            Due.is("-1", x.link(bad, 2, 1), -1);
            Due.is("-1", x.link(2, bad, 1), -1);
            Due.is("-1", x.cut(bad), -1);
        }
        Due.is("-1 (one alone)", x.link(2, 2, 0), -1);
        Due.is("-3 (it is so)", x.link(1, 2, 0), -3);
        Due.is("what it COST (0: none)", x.link(1, 2, 50), 0);
        Due.is("-3 (it is so)", x.link(2, 1, 50), -3);
        Due.is("what it COST", x.link(2, 1, 0), 50);
        Due.is("-3 none waits", x.step(), -3);
        for (int r = 0; r < 7; r++) {
            Due.is("-3 it is PASSIVE", x.cut(r), -3);
        }
        Counted y = Scenes.asking();
        Due.is("the kind of the MESSAGE", y.step(), 1);
        Due.is("the kind of the MESSAGE", y.step(), 1);
        Due.is("the kind of the MESSAGE", y.step(), 2);
        Due.is("of how many a reply was OUT", y.cut(2), 1);
        Due.is("3 is active, too", y.cut(3), 1);
    }

    private static void undoSixteen() {
        Due.about("Promise 18: The latest link(), step(), cut() (by ORDERS, too; 16 are kept) is undone .. -3 there is none");
        Counted x = new Counted();
        Due.is("there is none", x.undo(), -3);
        for (int i = 1; i <= 50; i++) {
            x.link(1, 2, i);
            Due.is("sixteen at most", x.count(5), Math.min(i, 16));
        }
        for (int i = 15; i >= 0; i--) {
            Due.is("undone", x.undo(), 0);
            Due.is("so many are left", x.count(5), i);
            Due.is("it costs", x.between(1, 2, 0), 34 + i);
        }
        Due.is("there is none", x.undo(), -3);
        Due.is("it costs", x.between(1, 2, 0), 34);
        for (int round = 0; round < 40; round++) {
            x.link(3, 4, 1 + round);
            x.link(3, 4, 50);
            Due.is("undone", x.undo(), 0);
            Due.is("it costs", x.between(3, 4, 0), 1 + round);
        }
        Due.is("by orders", Due.orders(x, "link 1 to 2 as 1+done%2 times 17"), 17);
        Due.is("sixteen", x.count(5), 16);
        for (int i = 0; i < 16; i++) {
            x.undo();
        }
        Due.is("the first of them stays", x.between(1, 2, 0), 1);
        Due.is("there is none", x.undo(), -3);
    }

    private static void undoBehindRefusals() {
        Due.about("Promise 18: 16 are kept");
        Counted x = Scenes.crowded(396);
        String before = Scenes.looks(x);
        x.link(3, 5, 1);
        x.link(4, 5, 1);
        for (int i = 0; i < 14; i++) {
            x.link(3, 5, 2 + i);
        }
        Due.is("400 wait", x.count(2), 400);
        Due.is("sixteen", x.count(5), 16);
        Due.is("no room", x.link(4, 6, 1), -5);
        Due.is("orders that can't be", Due.orders(x, "link 3 to 5 as 30+done times 20;link 4 to 6 as 1"), -3);
        x.days(77, 60);
        x.quiet();
        Due.is("sixteen yet", x.count(5), 16);
        for (int i = 0; i < 16; i++) {
            Due.is("undone", x.undo(), 0);
        }
        Scenes.same("sixteen acts ago", x, before);
    }

    private static void undoWhatItRestores() {
        Due.about("Promise 18: (ROUTERS, LINKS, MESSAGES, TIME are as they were): 0 .. 2");
        Counted x = Scenes.asking();
        String first = Scenes.looks(x);
        x.cut(2);
        String second = Scenes.looks(x);
        x.step();
        String third = Scenes.looks(x);
        x.link(1, 2, 0);
        Due.is("a link", x.undo(), 0);
        Scenes.same("a link", x, third);
        Due.is("a step", x.undo(), 1);
        Scenes.same("a step", x, second);
        Due.is("a cut", x.undo(), 2);
        Scenes.same("a cut", x, first);
        x.cut(2);
        Scenes.same("done once more", x, second);
        x.seen(0, 1);
        Due.law(x, "ranks 5");
        x.force(0);
        Due.type(x, "abc");
        Due.is("a cut", x.undo(), 2);
        Due.is("what was seen stays", x.count(3), 1);
        Due.is("laws stay", x.count(4), 1);
        Due.is("the one in force stays", x.count(12), 0);
        Due.is("the tape stays", x.count(6), 3);
    }

    private static void undoWhatEndsIt() {
        Due.about("Promise 18: (nothing that was ahead of a terms(), row(), back() that was not REFUSED can be undone)");
        for (int what = 0; what < 3; what++) {
            Counted x = Scenes.asking();
            x.image(0);
            int undone = x.count(5);
            x.terms(0, 1000);
            x.row();
            x.back(1);
            x.image(1);
            x.days(1, 1);
            x.seen(0, 0);
            x.forget();
            x.force(-1);
            Due.orders(x, "cut 0");
            Due.law(x, "?");
            x.quiet();
            Due.is("these leave it", x.count(5), undone);
            Due.type(x, what == 1 ? new int[] {9} : new int[0]);
            int answer = what == 0 ? x.terms(2, 0) : what == 1 ? x.row() : x.back(0);
            Due.is("it is not refused", answer, 0);
            Due.is("it ends it", x.count(5), 0);
            Due.is("it ends it", x.undo(), -3);
            x.link(5, 6, 7);
            Due.is("what is behind it can be undone", x.undo(), 0);
            Due.is("and no more", x.undo(), -3);
        }
        Counted y = new Counted();
        y.link(1, 2, 3);
        Due.type(y, 1, 2, 4);
        y.row();
        Due.is("a row's own links can't be undone, either", y.undo(), -3);
        Due.is("it costs", y.between(1, 2, 0), 4);
    }

    private static void path() {
        Due.about("Promise 19: NONE (it has ended; i beyond 7; others)");
        Counted x = Scenes.row();
        for (int i : new int[] {-1, 8, 9, LEAST, MOST}) {
            for (int r = -1; r < 8; r++) {
                Due.is("no such i", x.path(r, i), -1);
            }
        }
        for (int r : new int[] {-1, 7, LEAST, MOST}) {
            for (int i = 0; i < 8; i++) {
                Due.is("no such router", x.path(r, i), -1);
            }
        }
        for (int r = 0; r < 7; r++) {
            Due.is("(0: itself)", x.path(r, 0), r);
        }
        Due.is("to the goal", x.path(3, 3), 0);
        for (int i = 4; i < 8; i++) {
            Due.is("it has ended", x.path(3, i), -1);
        }
    }

    private static void leastAndThen() {
        Due.about("Promises 21, 23: NONE (no such ROUTER)");
        Counted x = Scenes.row();
        for (int r : new int[] {-1, 7, LEAST, MOST}) {
            Due.is("least", x.least(r), -1);
            Due.is("then", x.then(r), -1);
        }
        Due.is("FAR, if there is no way", x.least(4), 9999);
        Due.is("FAR then, too", x.then(4), 9999);
        Due.is("none is refused", x.count(7), 0);
    }

    private static void seenAndForget() {
        Due.about("Promise 24: -1 (FACT, n 0 .. 6); -5. It leaves what can be undone; Promise 25: how often there was");
        Counted x = Scenes.asking();
        int undone = x.count(5);
        for (int fact : new int[] {-1, 4, LEAST, MOST}) {
            Due.is("no such fact", x.seen(fact, 0), -1);
        }
        for (int n : new int[] {-1, 7, LEAST, MOST}) {
            Due.is("no such n", x.seen(0, n), -1);
        }
        Due.is("nothing was seen", x.forget(), 0);
        for (int i = 0; i < 6; i++) {
            Due.is("the least and the most can be", x.seen(i % 4, i % 2 * 6), i + 1);
        }
        Due.is("no room", x.seen(0, 0), -5);
        Due.is("it leaves what can be undone", x.count(5), undone);
        Due.is("six", x.forget(), 6);
        Due.is("none", x.forget(), 0);
        Due.is("all", x.canBe(), 127);
    }

    private static void few() {
        Due.about("Promise 28: k 1 .. 20, n 0 .. 99. NONE");
        Counted x = new Counted();
        for (int k : new int[] {0, 21, -1, LEAST, MOST}) {
            for (int n : new int[] {0, 99, -1, 100}) {
                Due.is("few(" + k + ", " + n + ")", x.few(k, n), -1);
            }
        }
        for (int n : new int[] {-1, 100, LEAST, MOST}) {
            Due.is("few(1, " + n + ")", x.few(1, n), -1);
            Due.is("few(20, " + n + ")", x.few(20, n), -1);
        }
        Model m = new Model();
        for (int slips = 0; slips <= 10; slips++) {
            x.terms(1, slips);
            m.terms(1, slips);
            for (int k : new int[] {1, 2, 19, 20}) {
                for (int n : new int[] {0, 1, 18, 19, 20, 98, 99}) {
                    Due.is("few(" + k + ", " + n + ") by " + slips, x.few(k, n), m.few(k, n));
                }
            }
        }
    }

    private static void drawn() {
        Due.about("Promise 31: Behind the latest DAYS .. NONE (ahead of any, too)");
        Counted x = Scenes.row();
        for (int r = -1; r < 8; r++) {
            for (int what = -1; what < 4; what++) {
                Due.is("ahead of any", x.drawn(r, what), -1);
            }
        }
        x.days(-1, 1);
        Due.is("refused ones are none", x.drawn(1, 0), -1);
        x.days(0, 1);
        Due.is("there are", x.drawn(0, 0), 0);
        int[] far = new int[7];
        for (int r = 0; r < 7; r++) {
            far[r] = x.drawn(r, 0);
        }
        x.days(0, 61);
        x.days(1000001, 1);
        x.link(0, 1, 0);
        x.back(1);
        for (int r = 0; r < 7; r++) {
            Due.is("they stay", x.drawn(r, 0), far[r]);
        }
        for (int what : new int[] {-1, 3, LEAST, MOST}) {
            Due.is("no such what", x.drawn(1, what), -1);
        }
        for (int r : new int[] {-1, 7, LEAST, MOST}) {
            Due.is("no such router", x.drawn(r, 0), -1);
        }
    }

    private static void imageAndBack() {
        Due.about("Promises 32, 33: -1; -2 it was not kept");
        Counted x = new Counted();
        for (int k : new int[] {-1, 2, LEAST, MOST}) {
            Due.is("no such image", x.image(k), -1);
            Due.is("no such image", x.back(k), -1);
        }
        Due.is("it was not kept", x.back(0), -2);
        Due.is("it was not kept", x.back(1), -2);
        Due.is("kept", x.image(1), 0);
        Due.is("0 was not", x.back(0), -2);
        Due.is("1 was", x.back(1), 0);
        Due.is("kept", x.image(0), 0);
        Due.is("both are", x.back(0) + x.back(1), 0);
        Due.is("-1 eight times", x.count(7), 8);
        Due.is("-2 three times", x.count(8), 3);
    }

    private static void count() {
        Due.about("Promise 34: NONE for others");
        Counted x = Scenes.asking();
        for (int what : new int[] {-1, 16, 17, LEAST, MOST}) {
            Due.is("count(" + what + ")", x.count(what), -1);
        }
        Due.is("links", x.count(0), 3);
        Due.is("active ones", x.count(1), 1);
        Due.is("messages", x.count(2), 2);
        Due.is("the law in force", x.count(12), -1);
        Counted y = Scenes.stuck();
        Due.is("active ones", y.count(1), 3);
        Counted z = new Counted();
        for (int one = 0; one < 7; one++) {
            for (int other = one + 1; other < 7; other++) {
                z.link(other, one, 1);
            }
        }
        Due.is("21 links at most", z.count(0), 21);
    }

    private static void refusedBy() {
        Due.about("Promise 34: 7 .. 11 how many calls were REFUSED by -1, -2, -3, -5, -6 (IMAGES do not keep that)");
        Counted x = new Counted();
        x.image(0);
        x.link(0, 0, 0);
        x.force(0);
        x.force(0);
        x.step();
        x.step();
        x.step();
        for (int i = 0; i < 10; i++) {
            x.seen(0, 0);
        }
        for (int i = 0; i < 5; i++) {
            x.row();
        }
        for (int i = 1; i <= 5; i++) {
            Due.is("count(" + (6 + i) + ")", x.count(6 + i), i);
        }
        x.back(0);
        x.undo();
        for (int i = 1; i <= 5; i++) {
            Due.is("behind back(), count(" + (6 + i) + ")", x.count(6 + i), i == 3 ? 4 : i);
        }
        Due.orders(x, "link 0 to 0 as 0");
        Due.is("orders are refused by -3", x.count(9), 5);
        Due.is("their link is no call", x.count(7), 1);
        Due.type(x, 0, 0, 0, 7, 7, 7);
        x.row();
        x.days(5, 60);
        Due.is("nor are a row's links", x.count(7), 1);
    }

    /** One of the calls that are refused, by number. */
    private static int refusedCall(Counted x, int call) {
        switch (call) {
            case 0:
                return x.terms(3, 0);
            case 1:
                return x.row();
            case 2:
                return x.law();
            case 3:
                return x.orders();
            case 4:
                return x.force(6);
            case 5:
                return x.link(1, 1, 1);
            case 6:
                return x.step();
            case 7:
                return x.cut(1);
            case 8:
                return x.undo();
            case 9:
                return x.seen(4, 0);
            case 10:
                return x.days(-1, 1);
            case 11:
                return x.image(2);
            default:
                return x.back(0);
        }
    }

    private static void status() {
        Due.about("Promise 35: What the latest call of .. was REFUSED by; 0 if it was not, or ahead of any");
        int[] by = {-1, -6, -6, -6, -2, -1, -3, -3, -3, -1, -1, -1, -2};
        for (int call = 0; call < by.length; call++) {
            Counted x = new Counted();
            Due.is("ahead of any", x.status(), 0);
            Due.is("the call " + call, refusedCall(x, call), by[call]);
            Due.is("status behind the call " + call, x.status(), by[call]);
            Due.is("once more", x.status(), by[call]);
            x.force(-1);
            Due.is("0 if it was not", x.status(), 0);
        }
        Counted x = Scenes.asking();
        int went = 0;
        for (int call = 0; call < by.length; call++) {
            x.link(0, 0, 0);
            goodCall(x, call);
            Due.is("0 behind the good call " + call, x.status(), 0);
            went++;
        }
        Due.is("all of them", went, 13);
    }

    /** One of the calls that could be refused, and is not. */
    private static void goodCall(Counted x, int call) {
        if (call == 0) {
            x.terms(2, 5);
        } else if (call == 1) {
            Due.type(x, 1, 1, 1);
            x.row();
        } else if (call == 2) {
            Due.law(x, "bars if 1=2");
        } else if (call == 3) {
            Due.orders(x, "step if 1=2");
        } else if (call == 4) {
            x.force(0);
        } else if (call == 5) {
            x.link(5, 6, 7);
        } else if (call == 6) {
            x.step();
        } else if (call == 7) {
            x.cut(2);
        } else if (call == 8) {
            x.undo();
        } else if (call == 9) {
            x.seen(0, 0);
        } else if (call == 10) {
            x.days(0, 1);
        } else if (call == 11) {
            x.image(0);
        } else {
            x.back(0);
        }
    }

    private static void statusStays() {
        Due.about("Promise 35: What the latest call of terms, row, law, orders, force, link, step, cut, undo, seen, days, image, back");
        Counted x = Scenes.asking();
        for (int round = 0; round < 2; round++) {
            int due = round == 0 ? -1 : 0;
            int unused = round == 0 ? x.link(0, 0, 0) : x.image(0);
            x.router(-1, -1);
            x.between(0, 0, 0);
            x.message(-1, 0);
            x.feed(0, 0, 0, 0, 0);
            x.end(500);
            x.end(0);
            x.blots();
            x.fault();
            x.stopped();
            x.path(9, 9);
            x.loops();
            x.least(9);
            x.quiet();
            x.then(9);
            x.forget();
            x.canBe();
            x.ask(9);
            x.few(0, 0);
            x.compare(9);
            x.drawn(9, 9);
            x.count(99);
            Due.is("all others leave it behind " + unused, x.status(), due);
        }
        int[] refused = {1, 0, 0, 0, 0};
        for (int i = 0; i < 5; i++) {
            Due.is("nor do they count: count(" + (7 + i) + ")", x.count(7 + i), refused[i]);
        }
    }
}
