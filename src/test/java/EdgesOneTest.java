/** The boundaries that Terms I names, sentence by sentence: routers, links, messages, what is seen, terms, refusals. */
public final class EdgesOneTest {
    private static final int[] NO_ROUTERS = {-1, 7, 8, 255, -7, Integer.MIN_VALUE, Integer.MAX_VALUE};

    private EdgesOneTest() {
    }

    public static void main(String[] args) {
        noSuchRouters();
        allRouters();
        costs();
        noLinksAtFirst();
        farByOneThatIsFar();
        farOfOneThatAsks();
        farAtLast();
        farWithoutALink();
        farAtFirst();
        goalAlways();
        ordersOfAWay();
        seenAtMost();
        seenFacts();
        terms();
        sets();
        firstRefusalOfLinks();
        firstRefusalOfOthers();
        refusedChangesNothing();
        Due.closes("EdgesOneTest");
    }

    private static void noSuchRouters() {
        Due.about("ROUTERS 0 .. 6");
        for (int r : NO_ROUTERS) {
            Counted x = Scenes.asking();
            x.days(5, 1);
            String before = Scenes.looks(x);
            for (int what = -1; what < 9; what++) {
                Due.is("router(" + r + ", " + what + ")", x.router(r, what), -1);
                Due.is("between(" + r + ", 1, " + what + ")", x.between(r, 1, what), -1);
                Due.is("between(1, " + r + ", " + what + ")", x.between(1, r, what), -1);
                Due.is("path(" + r + ", " + what + ")", x.path(r, what), -1);
                Due.is("drawn(" + r + ", " + what + ")", x.drawn(r, what), -1);
            }
            Due.is("least(" + r + ")", x.least(r), -1);
            Due.is("then(" + r + ")", x.then(r), -1);
            Due.is("none of these is refused", x.count(7), 0);
            Due.is("link(" + r + ", 1, 5)", x.link(r, 1, 5), -1);
            Due.is("link(1, " + r + ", 5)", x.link(1, r, 5), -1);
            Due.is("link(" + r + ", " + r + ", 5)", x.link(r, r, 5), -1);
            Due.is("cut(" + r + ")", x.cut(r), -1);
            Due.is("these are", x.count(7), 4);
            Scenes.same("no router " + r, x, before);
        }
    }

    private static void allRouters() {
        Due.about("ROUTERS 0 .. 6; 0 is the GOAL");
        Counted x = new Counted();
        x.days(0, 1);
        for (int r = 0; r < 7; r++) {
            Due.is("router(" + r + ", 0)", x.router(r, 0), r == 0 ? 0 : 9999);
            Due.is("least(" + r + ")", x.least(r), r == 0 ? 0 : 9999);
            Due.is("then(" + r + ")", x.then(r), r == 0 ? 0 : 9999);
            Due.is("path(" + r + ", 0)", x.path(r, 0), r);
            Due.is("drawn(" + r + ", 1)", x.drawn(r, 1), 0);
            Due.is("cut(" + r + ") is refused by what stands alone", x.cut(r), -3);
        }
        for (int one = 0; one < 7; one++) {
            for (int other = one + 1; other < 7; other++) {
                Due.is("each two can have a link", x.link(one, other, 50), 0);
            }
        }
        Due.is("21 links", x.count(0), 21);
        Due.is("42 messages", x.count(2), 42);
    }

    private static void costs() {
        Due.about("A LINK between two of them COSTS 1 .. 50");
        Counted x = new Counted();
        for (int costs : new int[] {51, -1, 52, 256, -50, Integer.MAX_VALUE, Integer.MIN_VALUE}) {
            Due.is("link as " + costs, x.link(5, 6, costs), -1);
        }
        Due.is("the least", x.link(5, 6, 1), 0);
        Due.is("it costs", x.between(6, 5, 0), 1);
        Due.is("the most", x.link(5, 6, 50), 1);
        Due.is("it costs", x.between(6, 5, 0), 50);
        Due.is("too much of one that is there", x.link(5, 6, 51), -1);
        Due.is("too little of one that is there", x.link(5, 6, -1), -1);
        Due.is("it costs as before", x.between(5, 6, 0), 50);
        for (int r = 0; r < 7; r++) {
            Due.is("none to itself", x.link(r, r, 5), -1);
            Due.is("none to itself, not even none", x.link(r, r, 0), -1);
        }
    }

    private static void noLinksAtFirst() {
        Due.about("or there is none (at first)");
        Counted x = new Counted();
        Due.is("links", x.count(0), 0);
        Due.is("messages", x.count(2), 0);
        for (int one = 0; one < 7; one++) {
            Due.is("neighbours", x.router(one, 7), 0);
            for (int other = 0; other < 7; other++) {
                Due.is("costs", x.between(one, other, 0), one == other ? -1 : 0);
            }
        }
        Due.is("it can't become none", x.link(0, 1, 0), -3);
        x.link(2, 3, 4);
        Due.is("it becomes none", x.link(3, 2, 0), 4);
        Due.is("links", x.count(0), 0);
        Due.is("neighbours", x.router(2, 7) + x.router(3, 7), 0);
    }

    private static void farByOneThatIsFar() {
        Due.about("what would be more is FAR");
        Counted x = new Counted();
        for (int costs : new int[] {1, 49, 50}) {
            x.link(1, 2, costs);
            Due.is("by 2, which costs " + costs, x.between(1, 2, 2), 9999);
            Due.is("by 1, which costs " + costs, x.between(2, 1, 2), 9999);
        }
        Scenes.rest(x);
        Due.is("heard, it is so, too", x.between(1, 2, 2), 9999);
        Due.is("no successor then", x.router(1, 2), -1);
    }

    private static void farOfOneThatAsks() {
        Due.about("what would be more is FAR");
        Counted x = Scenes.row();
        x.link(0, 1, 0);
        Scenes.steps(x, 1);
        Due.is("2 heard it of its successor", x.between(2, 1, 1), 9999);
        Scenes.routerIs("2 asks, FAR and no more", x, 2, 9999, 9999, 1, 1, 10, 2);
        Scenes.messageIs("that is what it sends", x, 0, 1, 2, 1, 9999);
    }

    private static void farAtLast() {
        Due.about("FAR is 9,999; what would be more is FAR");
        int[] costs = {47, 48, 49, 50};
        int[] far = {9997, 9998, 9999, 9999};
        for (int i = 0; i < costs.length; i++) {
            Counted x = Scenes.nearlyFar();
            x.link(1, 2, costs[i]);
            x.step();
            Due.is("2 was told", x.between(2, 1, 1), 9950);
            Due.is("1 is feasible to 2", x.between(2, 1, 3), 1);
            Due.is("by 1 with " + costs[i], x.between(2, 1, 2), far[i]);
            Scenes.routerIs("with " + costs[i], x, 2, far[i], far[i], far[i] < 9999 ? 1 : -1, 0, 0, 0, 0, 2);
        }
    }

    private static void farWithoutALink() {
        Due.about("BY a NEIGHBOUR: .. (FAR without a LINK)");
        Counted x = Scenes.row();
        Due.is("by the goal, no link", x.between(2, 0, 2), 9999);
        Due.is("the goal by 2, no link", x.between(0, 2, 2), 9999);
        Due.is("by 1, a link", x.between(2, 1, 2), 2);
        x.link(1, 2, 0);
        Due.is("by 1, the link is gone", x.between(2, 1, 2), 9999);
        Due.is("nor is it feasible", x.between(2, 1, 3), 0);
    }

    private static void farAtFirst() {
        Due.about("(FAR at first) .. a SUCCESSOR (none at first), is PASSIVE (at first)");
        Counted x = new Counted();
        for (int r = 0; r < 7; r++) {
            for (int o = 0; o < 7; o++) {
                if (r != o) {
                    Due.is("told", x.between(r, o, 1), 9999);
                    Due.is("by", x.between(r, o, 2), 9999);
                    Due.is("feasible", x.between(r, o, 3), 0);
                    Due.is("waiting", x.between(r, o, 4), 0);
                }
            }
            Scenes.routerIs("at first", x, r, r == 0 ? 0 : 9999, r == 0 ? 0 : 9999, -1, 0, 0, 0, 0, 0);
        }
    }

    private static void goalAlways() {
        Due.about("of the GOAL 0 always");
        Counted x = Scenes.row();
        x.link(0, 2, 3);
        x.link(0, 3, 9);
        x.link(0, 1, 30);
        for (int i = 0; i < 60 && x.count(2) > 0; i++) {
            Scenes.routerIs("whatever it hears", x, 0, 0, 0, -1, 0, 0, 0, 0, 14);
            x.step();
        }
        x.link(0, 1, 0);
        x.link(0, 2, 0);
        x.link(3, 0, 0);
        Scenes.routerIs("when it is alone", x, 0, 0, 0, -1, 0, 0, 0, 0, 0);
        Due.is("it is passive always", x.cut(0), -3);
        Due.is("it is no way from itself", x.least(0), 0);
        Due.is("then, too", x.then(0), 0);
    }

    private static void ordersOfAWay() {
        Due.about("those of one WAY (from, to) wait in the order in which they were sent");
        Counted x = Scenes.row();
        x.link(0, 1, 2);
        x.link(0, 1, 3);
        x.link(0, 1, 4);
        Due.is("three on the way from 1 to 2", x.between(1, 2, 4), 3);
        Due.law(x, "ranks 99;ranks 50 - far if from = 1 and to = 2");
        x.force(0);
        Due.is("the first of them ranks", x.message(1, 4), 48);
        Due.is("the last of them ranks least of all", x.message(5, 4), 46);
        for (int due = 2; due <= 4; due++) {
            // At 4 it would be less by 2, which is not feasible: 1 asks, by a query.
            Scenes.steps(x, due == 4 ? 1 : 0);
            Due.is("2 is told in order", x.between(2, 1, 1), due);
        }
    }

    private static void seenAtMost() {
        Due.about("SEEN, 6 at most");
        Counted x = new Counted();
        for (int i = 1; i <= 6; i++) {
            Due.is("seen", x.seen(i % 4, 0), i);
        }
        Due.is("the seventh", x.seen(0, 0), -5);
        Due.is("there are six", x.count(3), 6);
        Due.is("refused by -5", x.count(10), 1);
        Due.is("six are forgotten", x.forget(), 6);
        Due.is("room again", x.seen(0, 0), 1);
    }

    private static void seenFacts() {
        Due.about("a FACT (0 how many NEIGHBOURS, 1 ACTIVE (1) or not (0), 2 of how many a reply is OUT, 3 the SUCCESSOR) is n");
        Counted x = new Counted();
        for (int r = 1; r < 7; r++) {
            x.link(0, r, 1);
        }
        x.seen(0, 6);
        Due.is("six neighbours", x.canBe(), 1);
        x.forget();
        for (int n = 0; n < 7; n++) {
            x.seen(3, n);
            Due.is("nobody without a successor has successor " + n, x.canBe(), 0);
            x.forget();
        }
        x.link(0, 1, 0);
        x.seen(0, 0);
        Due.is("no neighbour", x.canBe(), 2);
    }

    private static void terms() {
        Due.about("TERMS: 0 TIME 0 .. 999 (0 at first), 1 SLIPS 0 .. 10 (1), 2 MOOD 0 .. 9 (0)");
        int[] first = {0, 1, 0};
        int[] most = {999, 10, 9};
        for (int what = 0; what < 3; what++) {
            Counted x = new Counted();
            Due.is("at first", x.count(13 + what), first[what]);
            for (int bad : new int[] {-1, most[what] + 1, Integer.MIN_VALUE, Integer.MAX_VALUE}) {
                Due.is("terms(" + what + ", " + bad + ")", x.terms(what, bad), -1);
                Due.is("it stays", x.count(13 + what), first[what]);
            }
            Due.is("the most", x.terms(what, most[what]), first[what]);
            Due.is("that", x.count(13 + what), most[what]);
            Due.is("the least", x.terms(what, 0), most[what]);
            Due.is("that", x.count(13 + what), 0);
            for (int other = 0; other < 3; other++) {
                Due.is("the others stay", x.count(13 + other), other == what ? 0 : first[other]);
            }
        }
    }

    private static void sets() {
        Due.about("Sets are told as bits");
        Counted x = new Counted();
        x.link(0, 6, 1);
        x.step();
        for (int r = 1; r < 6; r++) {
            x.link(6, r, r);
        }
        Scenes.rest(x);
        Due.is("six neighbours", x.router(6, 7), 63);
        Due.is("the last bit", x.router(5, 7), 64);
        x.link(0, 6, 50);
        Due.is("all six are asked", x.router(6, 4), 63);
        x.link(0, 6, 0);
        Due.is("five are", x.router(6, 4), 62);
        Scenes.steps(x, 1);
        Due.is("1 owes 6 a reply", x.router(1, 5), 64);
        x.seen(1, 1);
        Due.is("it can be", x.canBe(), 66);
    }

    private static void firstRefusalOfLinks() {
        Due.about("The first of these in that order");
        Counted x = Scenes.crowded(400);
        Due.is("neither -3 nor -5 goes ahead of -1", x.link(1, 1, 0), -1);
        Due.is("no room", x.link(4, 5, 1), -5);
        Due.is("it is so goes ahead of no room", x.link(4, 5, 0), -3);
        Due.is("it is so goes ahead of no room", x.link(1, 2, 10), -3);
        Due.law(x, "bars");
        x.force(0);
        Due.is("barred goes ahead of no room", x.link(4, 5, 1), -3);
        Due.is("a number that can't be goes ahead of barred", x.link(4, 5, 51), -1);
        Due.is("a number that can't be goes ahead of barred", x.link(4, 7, 1), -1);
        Due.is("the same router goes ahead of barred", x.link(4, 4, 1), -1);
        Counted y = Scenes.crowdedAndAsking(399);
        Due.is("no such router", y.cut(7), -1);
        Due.is("passive", y.cut(1), -3);
        Due.is("no room", y.cut(2), -5);
    }

    private static void firstRefusalOfOthers() {
        Due.about("The first of these in that order");
        Counted x = new Counted();
        for (int i = 0; i < 6; i++) {
            x.seen(0, 0);
            Due.law(x, "bars");
        }
        Due.is("no such fact goes ahead of no room", x.seen(4, 0), -1);
        Due.is("no such n goes ahead of no room", x.seen(0, 7), -1);
        Due.is("no room", x.seen(3, 6), -5);
        Due.is("no room goes ahead of a fault", Due.law(x, "?"), -5);
        Due.is("no such number goes ahead of not kept", x.back(2), -1);
        Due.is("not kept", x.back(1), -2);
        Due.is("a fault goes ahead of what can't be behind it", Due.orders(x, "cut 1;?"), -6);
        Due.is("so nothing stopped", x.stopped(), -1);
    }

    private static void refusedChangesNothing() {
        Due.about("REFUSED by");
        Counted x = Scenes.asking();
        Due.law(x, "bars if far = 7");
        x.force(0);
        x.seen(0, 1);
        String before = Scenes.looks(x);
        int undone = x.count(5);
        int[] answers = {x.terms(0, 1000), x.terms(3, 0), x.row(), x.law(), x.orders(), x.force(1), x.force(-2), x.link(1, 2, 7),
            x.link(1, 2, 10), x.link(1, 1, 1), x.cut(0), x.cut(7), x.seen(4, 4), x.days(-1, 1), x.days(0, 0), x.image(2), x.back(0)};
        int[] due = {-1, -1, -6, -6, -6, -2, -2, -3, -3, -1, -3, -1, -1, -1, -1, -1, -2};
        for (int i = 0; i < due.length; i++) {
            Due.is("refused, the call " + i, answers[i], due[i]);
        }
        Scenes.same("refused", x, before);
        Due.is("as many can be undone", x.count(5), undone);
        int[] counts = {8, 3, 3, 0, 3};
        for (int i = 0; i < 5; i++) {
            Due.is("count(" + (7 + i) + ")", x.count(7 + i), counts[i]);
        }
    }
}
