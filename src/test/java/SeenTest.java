/** Promises 24 to 27, 32, 33: what was seen, what it can be, what to ask for; images. */
public final class SeenTest {
    private SeenTest() {
    }

    public static void main(String[] args) {
        seen();
        canBe();
        ask();
        image();
        imagesKeepLaws();
        Due.closes("SeenTest");
    }

    private static void seen() {
        Counted x = new Counted();
        x.link(1, 2, 3);
        for (int i = 1; i <= 6; i++) {
            Due.is("seen", x.seen(0, 1), i);
        }
        Due.is("no room", x.seen(0, 1), -5);
        Due.is("a number that can't be goes ahead", x.seen(4, 1), -1);
        Due.is("no such fact", x.seen(-1, 1), -1);
        Due.is("no such n", x.seen(0, 7), -1);
        Due.is("no such n", x.seen(0, -1), -1);
        Due.is("it leaves what can be undone", x.count(5), 1);
        Due.is("how often there was", x.forget(), 6);
        Due.is("nothing then", x.forget(), 0);
        Due.is("nothing then", x.count(3), 0);
        Due.is("again", x.seen(3, 6), 1);
        Due.is("status", x.status(), 0);
    }

    /** 1 at the goal and 2 behind it, rested; 3 has asked 4 and 5. */
    private static Counted some() {
        Counted x = new Counted();
        x.link(0, 1, 5);
        x.link(1, 2, 3);
        x.link(0, 3, 5);
        x.link(3, 4, 3);
        x.link(3, 5, 3);
        for (int i = 0; i < 99 && x.count(2) > 0; i++) {
            x.step();
        }
        x.link(0, 3, 0);
        return x;
    }

    private static void seenIs(int fact, int n, int want) {
        Counted x = some();
        x.seen(fact, n);
        Due.is("it can be by " + fact + " is " + n, x.canBe(), want);
    }

    private static void canBe() {
        seenIs(0, 0, 1 << 6);
        seenIs(0, 1, 1 | 4 | 16 | 32);
        seenIs(0, 2, 2 | 8);
        seenIs(0, 3, 0);
        seenIs(1, 1, 8);
        seenIs(1, 0, 127 - 8);
        seenIs(1, 2, 0);
        seenIs(2, 2, 8);
        seenIs(2, 0, 127 - 8);
        seenIs(3, 0, 2 | 8);
        seenIs(3, 1, 4);
        seenIs(3, 3, 16 | 32);
        seenIs(3, 6, 0);
        Counted x = some();
        Due.is("nothing seen", x.canBe(), 127);
        x.seen(3, 0);
        x.seen(0, 2);
        Due.is("all of it", x.canBe(), 10);
        x.seen(1, 0);
        Due.is("all of it", x.canBe(), 2);
        x.link(1, 6, 4);
        Due.is("as it is now", x.canBe(), 0);
        Due.is("none to ask of", x.ask(0), -1);
        Due.is("none to ask of", x.ask(1), -1);
        x.forget();
        Due.is("all again", x.canBe(), 127);
    }

    private static void ask() {
        Counted x = some();
        // Neighbours 1,2,1,2,1,1,0: four alike; active: six; out: six; successors -,0,1,0,3,3,-: two.
        Due.is("the successor", x.ask(0), 3);
        Due.is("two are left at most", x.ask(1), 2);
        x.seen(3, 0);
        // 1 and 3: two neighbours each; one is active; out 0 and 2: the lowest fact that tells them apart.
        Due.is("whether active", x.ask(0), 1);
        Due.is("one is left", x.ask(1), 1);
        x.forget();
        x.seen(3, 3);
        Due.is("4 and 5 are alike in all", x.ask(0), 0);
        Due.is("two are left", x.ask(1), 2);
        Due.is("no such what", x.ask(2), -1);
        Due.is("no such what", x.ask(-1), -1);
        Due.is("all are alike in all", new Counted().ask(0), 0);
        Due.is("all are left", new Counted().ask(1), 7);
    }

    private static void image() {
        Counted x = some();
        Due.is("no such image", x.image(-1), -1);
        Due.is("no such image", x.image(2), -1);
        Due.is("no such image", x.back(2), -1);
        Due.is("no such image", x.back(-1), -1);
        Due.is("it was not kept", x.back(0), -2);
        Due.is("it was not kept", x.back(1), -2);
        x.seen(0, 1);
        x.terms(0, 100);
        x.terms(1, 4);
        x.terms(2, 5);
        Due.is("kept", x.image(1), 0);
        Due.is("the other one was not", x.back(0), -2);
        int waits = x.count(2);
        x.link(5, 6, 7);
        x.seen(0, 2);
        x.terms(0, 7);
        x.terms(1, 8);
        x.terms(2, 9);
        x.step();
        x.cut(3);
        Due.type(x, "tape");
        Due.is("kept", x.image(0), 0);
        Due.is("back", x.back(1), 0);
        Due.is("seen", x.count(3), 1);
        Due.is("waiting", x.count(2), waits);
        Due.is("time", x.count(13), 100);
        Due.is("slips", x.count(14), 4);
        Due.is("mood", x.count(15), 5);
        Due.is("links", x.between(5, 6, 0), 0);
        Due.is("active", x.router(3, 3), 1);
        Due.is("nothing can be undone", x.undo(), -3);
        Due.is("the tape stays", x.count(6), 4);
        x.link(5, 6, 9);
        Due.is("images stay", x.back(1), 0);
        Due.is("links", x.between(5, 6, 0), 0);
        Due.is("back to the other one", x.back(0), 0);
        Due.is("links", x.between(5, 6, 0), 7);
        Due.is("seen", x.count(3), 2);
        Due.is("time", x.count(13), 8);
        Due.is("the active one was cut", x.router(3, 3), 0);
        x.forget();
        Due.is("kept anew", x.image(0), 0);
        x.seen(1, 1);
        x.back(0);
        Due.is("as kept anew", x.count(3), 0);
        x.seen(0, 2);
        x.image(0);
        x.forget();
        x.seen(3, 1);
        x.back(0);
        Due.is("what was seen, not only how often", x.canBe(), 2 | 8 | 32);
    }

    private static void imagesKeepLaws() {
        Counted x = new Counted();
        x.link(1, 2, 3);
        x.image(0);
        Due.law(x, "ranks 5");
        x.force(0);
        x.image(1);
        x.back(0);
        Due.is("no law", x.count(4), 0);
        Due.is("none in force", x.count(12), -1);
        Due.is("no such law", x.force(0), -2);
        Due.is("another first law", Due.law(x, "ranks 6"), 0);
        x.force(0);
        Due.is("by that", x.message(0, 4), 6);
        x.back(1);
        Due.is("the law is in force again", x.count(12), 0);
        Due.is("by the law as it was", x.message(0, 4), 5);
    }
}
