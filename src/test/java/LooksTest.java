/** Promises 1 to 4, 19 to 21, 34, 35: a new object and what only looks. */
public final class LooksTest {
    private LooksTest() {
    }

    public static void main(String[] args) {
        newObject();
        router();
        between();
        message();
        path();
        loops();
        least();
        count();
        status();
        Due.closes("LooksTest");
    }

    /** 0 - 1 - 2 in a row, all told: 5 and 3 far. */
    private static Counted rested() {
        Counted x = new Counted();
        x.link(0, 1, 5);
        x.link(1, 2, 3);
        for (int i = 0; i < 7; i++) {
            x.step();
        }
        return x;
    }

    private static void newObject() {
        Counted x = new Counted();
        Due.is("NONE", DiffusingRoutes.NONE, -1);
        Due.is("FAR", DiffusingRoutes.FAR, 9999);
        int[] goal = {0, 0, -1, 0, 0, 0, 0, 0};
        int[] others = {9999, 9999, -1, 0, 0, 0, 0, 0};
        for (int r = 0; r < 7; r++) {
            for (int what = 0; what < 8; what++) {
                Due.is("new router(" + r + ", " + what + ")", x.router(r, what), r == 0 ? goal[what] : others[what]);
            }
            for (int o = 0; o < 7; o++) {
                Due.is("new between", x.between(r, o, 0), r == o ? -1 : 0);
                Due.is("new between", x.between(r, o, 1), r == o ? -1 : 9999);
            }
        }
        int[] counts = {0, 0, 0, 0, 0, 0, 0, 0, 0, 0, 0, 0, -1, 0, 1, 0};
        for (int what = 0; what < 16; what++) {
            Due.is("new count(" + what + ")", x.count(what), counts[what]);
        }
        Due.is("new status()", x.status(), 0);
        Due.is("new fault()", x.fault(), -1);
        Due.is("new stopped()", x.stopped(), -1);
        Due.is("new blots()", x.blots(), 0);
        Due.is("new drawn()", x.drawn(0, 0), -1);
    }

    private static void router() {
        Counted x = rested();
        Due.is("router distance", x.router(2, 0), 8);
        Due.is("router bound", x.router(2, 1), 8);
        Due.is("router successor", x.router(2, 2), 1);
        Due.is("router neighbours", x.router(1, 7), 5);
        x.link(0, 1, 0);
        Due.is("router 1 is active", x.router(1, 3), 1);
        Due.is("router 1 waits for 2", x.router(1, 4), 4);
        Due.is("router 1 owes nobody", x.router(1, 5), 0);
        Due.is("router 1 is far", x.router(1, 0), 9999);
        Due.is("router 1 has that as its bound", x.router(1, 1), 9999);
        Due.is("router 1 keeps its successor", x.router(1, 2), 0);
        x.step();
        Due.is("router 2 owes 1", x.router(2, 5), 2);
        Due.is("router 2 is not worse", x.router(2, 6), 0);
        x.link(1, 2, 40);
        Due.is("by its successor it is FAR as before", x.router(2, 6), 0);
        Due.is("no router -1", x.router(-1, 0), -1);
        Due.is("no router 7", x.router(7, 0), -1);
        Due.is("no such what", x.router(1, -1), -1);
        Due.is("no such what", x.router(1, 8), -1);
        Due.is("looks are not refused", x.count(7), 0);
    }

    private static void between() {
        Counted x = rested();
        Due.is("costs", x.between(2, 1, 0), 3);
        Due.is("1 told 2", x.between(2, 1, 1), 5);
        Due.is("2 told 1", x.between(1, 2, 1), 8);
        Due.is("by 1", x.between(2, 1, 2), 8);
        Due.is("1 told the goal", x.between(0, 1, 1), 5);
        Due.is("nobody is feasible to the goal", x.between(0, 1, 3), 0);
        Due.is("1 is feasible to 2", x.between(2, 1, 3), 1);
        Due.is("2 is not feasible to 1", x.between(1, 2, 3), 0);
        Due.is("without a link", x.between(2, 0, 2), 9999);
        x.link(0, 1, 7);
        Due.is("from 1 to 2", x.between(1, 2, 4), 1);
        x.link(0, 1, 8);
        Due.is("from 1 to 2", x.between(1, 2, 4), 2);
        Due.is("from 2 to 1", x.between(2, 1, 4), 0);
        Due.is("one alone", x.between(3, 3, 1), -1);
        Due.is("no router", x.between(7, 3, 1), -1);
        Due.is("no router", x.between(3, -1, 1), -1);
        Due.is("no such what", x.between(1, 2, 5), -1);
        Due.is("no such what", x.between(1, 2, -1), -1);
    }

    private static void message() {
        Counted x = rested();
        x.link(4, 3, 2);
        x.link(0, 1, 0);
        int[][] due = {{0, 4, 3, 9999, 0}, {0, 3, 4, 9999, 0}, {1, 1, 2, 9999, 0}};
        for (int i = 0; i < due.length; i++) {
            for (int what = 0; what < 5; what++) {
                Due.is("message(" + i + ", " + what + ")", x.message(i, what), due[i][what]);
            }
        }
        Due.law(x, "ranks from * 10 + to + kind");
        x.force(0);
        Due.is("it ranks by the law in force", x.message(0, 4), 43);
        Due.is("it ranks by the law in force", x.message(2, 4), 13);
        Due.is("no message", x.message(3, 0), -1);
        Due.is("no message", x.message(-1, 0), -1);
        Due.is("no such what", x.message(0, 5), -1);
        Due.is("no such what", x.message(0, -1), -1);
    }

    private static void path() {
        Counted x = rested();
        int[] due = {2, 1, 0, -1, -1, -1, -1, -1, -1};
        for (int i = 0; i < due.length; i++) {
            Due.is("path(2, " + i + ")", x.path(2, i), due[i]);
        }
        Due.is("the goal's path", x.path(0, 0), 0);
        Due.is("the goal's path has ended", x.path(0, 1), -1);
        Due.is("no such place", x.path(2, -1), -1);
        Due.is("no router", x.path(-1, 0), -1);
        Due.is("no router", x.path(7, 0), -1);
        Counted round = looped();
        Due.is("a loop's path goes on", round.path(1, 7), 2);
        Due.is("but not beyond 7", round.path(1, 8), -1);
    }

    /** 2 is cut before 1 heard that the goal is lost: 2 takes what 1 has of it, told too late. */
    private static Counted looped() {
        Counted x = new Counted();
        x.link(0, 2, 1);
        x.step();
        x.link(2, 1, 3);
        x.link(0, 2, 0);
        x.step();
        x.cut(2);
        x.step();
        x.step();
        x.step();
        return x;
    }

    private static void loops() {
        Due.is("no loops", rested().loops(), 0);
        Due.is("new ones have none", new Counted().loops(), 0);
        Counted x = looped();
        Due.is("1 and 2 are a loop", x.loops(), 6);
        Due.is("by 2", x.router(1, 2), 2);
        Due.is("by 1", x.router(2, 2), 1);
        Due.law(x, "ranks 1;ranks 0 if to = 4");
        x.force(0);
        x.link(4, 2, 1);
        x.step();
        Due.is("4 goes by 2", x.path(4, 1), 2);
        Due.is("one that only leads to it is none of it", x.loops(), 6);
    }

    private static void least() {
        Counted x = new Counted();
        x.link(0, 6, 50);
        x.link(0, 1, 3);
        x.link(1, 2, 4);
        x.link(2, 3, 5);
        x.link(3, 4, 6);
        x.link(4, 6, 7);
        int[] due = {0, 3, 7, 12, 18, 9999, 25};
        for (int r = 0; r < 7; r++) {
            Due.is("least(" + r + ")", x.least(r), due[r]);
        }
        x.link(0, 6, 2);
        Due.is("the other way", x.least(4), 9);
        Due.is("no router", x.least(-1), -1);
        Due.is("no router", x.least(7), -1);
    }

    private static void count() {
        Counted x = rested();
        Due.is("links", x.count(0), 2);
        Due.is("can be undone", x.count(5), 9);
        Due.is("time", x.count(13), 7);
        x.link(0, 1, 0);
        Due.is("links", x.count(0), 1);
        Due.is("active", x.count(1), 1);
        Due.is("waiting", x.count(2), 1);
        x.seen(0, 1);
        x.seen(0, 1);
        Due.is("seen", x.count(3), 2);
        Due.law(x, "bars");
        x.force(0);
        Due.is("laws", x.count(4), 1);
        Due.is("in force", x.count(12), 0);
        Due.type(x, "abc");
        Due.is("tape", x.count(6), 3);
        x.terms(1, 4);
        x.terms(2, 9);
        Due.is("slips", x.count(14), 4);
        Due.is("mood", x.count(15), 9);
        Due.is("none", x.count(-1), -1);
        Due.is("none", x.count(16), -1);
    }

    private static void status() {
        Counted x = new Counted();
        x.link(0, 0, 1);
        Due.is("by -1", x.status(), -1);
        x.router(9, 9);
        x.feed(0, 0, 0, 0, 0);
        x.end(99);
        x.few(0, 0);
        x.ask(7);
        x.forget();
        Due.is("other calls leave it", x.status(), -1);
        x.end(0);
        x.force(3);
        Due.is("by -2", x.status(), -2);
        x.step();
        Due.is("by -3", x.status(), -3);
        for (int i = 0; i < 7; i++) {
            x.seen(0, 0);
        }
        Due.is("by -5", x.status(), -5);
        x.row();
        Due.is("by -6", x.status(), -6);
        int[] due = {1, 1, 1, 1, 1};
        for (int i = 0; i < 5; i++) {
            Due.is("refused by each", x.count(7 + i), due[i]);
        }
        Due.is("none was in force", x.force(-1), -1);
        Due.is("which is no refusal", x.status(), 0);
        Due.is("nor counted", x.count(7), 1);
        x.image(5);
        x.days(0, 0);
        x.back(1);
        x.undo();
        x.cut(0);
        x.terms(0, -1);
        x.law();
        x.orders();
        Due.is("refused by -1", x.count(7), 4);
        Due.is("refused by -2", x.count(8), 2);
        Due.is("refused by -3", x.count(9), 3);
        Due.is("refused by -6", x.count(11), 3);
        x.image(0);
        x.link(8, 8, 8);
        x.back(0);
        Due.is("images do not keep that", x.count(7), 5);
        Due.is("what went is 0", x.status(), 0);
    }
}
