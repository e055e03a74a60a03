/** Promises 15 to 18: links, steps, cuts and what is undone, traced by hand from the document. */
public final class ActsTest {
    private ActsTest() {
    }

    public static void main(String[] args) {
        linkAnswers();
        newLink();
        lostLink();
        feasible();
        alone();
        goal();
        worse();
        worseButFeasible();
        worseAndAlone();
        worseByUpdate();
        farOneAnswers();
        owedBySuccessor();
        cut();
        lateReply();
        waysKeepTheirOrder();
        ranksLeastFirst();
        ranksByWhatIsThen();
        timeStays();
        noRoomForLink();
        noRoomForStep();
        noRoomForCut();
        undo();
        Due.closes("ActsTest");
    }

    private static void steps(Counted x, int... kinds) {
        for (int i = 0; i < kinds.length; i++) {
            Due.is("step " + i, x.step(), kinds[i]);
        }
    }

    private static void routerIs(String when, Counted x, int router, int... due) {
        for (int what = 0; what < due.length; what++) {
            Due.is(when + ": router(" + router + ", " + what + ")", x.router(router, what), due[what]);
        }
    }

    private static void messageIs(String when, Counted x, int i, int... due) {
        for (int what = 0; what < due.length; what++) {
            Due.is(when + ": message(" + i + ", " + what + ")", x.message(i, what), due[what]);
        }
    }

    private static void rest(Counted x) {
        for (int i = 0; i < 999 && x.count(2) > 0; i++) {
            x.step();
        }
    }

    /** The goal, 1, 2, 3 in a row, each link costs 1, all told. */
    private static Counted row() {
        Counted x = new Counted();
        x.link(0, 1, 1);
        x.link(1, 2, 1);
        x.link(2, 3, 1);
        rest(x);
        return x;
    }

    private static void linkAnswers() {
        Counted x = new Counted();
        Due.is("there was none", x.link(3, 4, 1), 0);
        Due.is("it cost", x.link(4, 3, 50), 1);
        Due.is("it is so", x.link(3, 4, 50), -3);
        Due.is("it is so the other way, too", x.link(4, 3, 50), -3);
        Due.is("it cost", x.link(4, 3, 0), 50);
        Due.is("there is none", x.link(4, 3, 0), -3);
        int[][] bad = {{3, 3, 1}, {-1, 3, 1}, {7, 3, 1}, {3, -1, 1}, {3, 7, 1}, {3, 4, -1}, {3, 4, 51}, {0, 0, 0},
            {Integer.MIN_VALUE, Integer.MAX_VALUE, 5}};
        for (int[] b : bad) {
            Due.is("it can't be", x.link(b[0], b[1], b[2]), -1);
        }
        Due.is("refused by -1", x.count(7), bad.length);
        Due.is("refused by -3", x.count(9), 3);
        Due.is("what was refused can't be undone", x.count(5), 3);
        Due.is("no step", x.step(), -3);
        Due.is("no cut", x.cut(-1), -1);
        Due.is("no cut", x.cut(7), -1);
        Due.is("no cut of a passive one", x.cut(3), -3);
        Due.is("no cut of the goal", x.cut(0), -3);
    }

    private static void newLink() {
        Counted x = new Counted();
        x.link(5, 3, 2);
        Due.is("two messages", x.count(2), 2);
        messageIs("the one told first sends first", x, 0, 0, 5, 3, 9999);
        messageIs("then the other one", x, 1, 0, 3, 5, 9999);
        x.link(5, 0, 7);
        messageIs("with its distance", x, 3, 0, 0, 5, 0);
        steps(x, 0, 0, 0, 0);
        routerIs("by the goal", x, 5, 7, 7, 0, 0, 0, 0, 0, 9);
        messageIs("it tells all, rising", x, 0, 0, 5, 0, 7);
        messageIs("it tells all, rising", x, 1, 0, 5, 3, 7);
        steps(x, 0, 0);
        routerIs("by 5", x, 3, 9, 9, 5, 0, 0, 0, 0, 32);
        x.link(5, 3, 4);
        routerIs("it costs more, and 5 is feasible yet", x, 3, 11, 9, 5);
    }

    private static void lostLink() {
        Counted x = row();
        x.link(4, 2, 9);
        x.link(1, 2, 2);
        Due.is("from 2 to 4 and back, from 2 to all", x.count(2), 5);
        x.link(2, 4, 0);
        Due.is("both ways are lost", x.count(2), 2);
        Due.is("from 2 to 1", x.between(2, 1, 4), 1);
        Due.is("from 2 to 3", x.between(2, 3, 4), 1);
        Due.is("what was told is FAR", x.between(4, 2, 1), 9999);
        x.link(2, 1, 0);
        Due.is("what was told is FAR", x.between(1, 2, 1), 9999);
        Due.is("what was told is FAR", x.between(2, 1, 1), 9999);
        routerIs("2 asks 3", x, 2, 9999, 9999, 1, 1, 8, 0, 0, 8);
        routerIs("1 has its way", x, 1, 1, 1, 0, 0);
        x.link(2, 3, 0);
        routerIs("nobody is left to answer 2", x, 2, 9999, 9999, -1, 0, 0, 0, 0, 0);
        routerIs("nor 3", x, 3, 9999, 9999, -1, 0, 0, 0, 0, 0);
        Due.is("all is quiet", x.count(2), 0);
    }

    private static void feasible() {
        Counted x = new Counted();
        x.link(0, 2, 4);
        x.link(0, 3, 4);
        x.link(2, 1, 1);
        x.link(3, 1, 1);
        rest(x);
        routerIs("of alike ones the lowest", x, 1, 5, 5, 2);
        x.link(2, 1, 3);
        routerIs("another feasible one is the least", x, 1, 5, 5, 3);
        Due.is("nothing is told, it is as far as before", x.count(2), 0);
        x.link(3, 1, 9);
        routerIs("2 is again, farther, and the bound stays", x, 1, 7, 5, 2);
        Due.is("that is told to both", x.count(2), 2);
    }

    private static void alone() {
        Counted x = new Counted();
        x.link(0, 4, 9);
        x.step();
        routerIs("by the goal", x, 4, 9, 9, 0);
        x.link(4, 0, 0);
        routerIs("it ends at once", x, 4, 9999, 9999, -1, 0, 0, 0, 0, 0);
        Due.is("nothing waits", x.count(2), 0);
        Due.is("it can't be cut", x.cut(4), -3);
    }

    private static void goal() {
        Counted x = row();
        x.link(0, 3, 50);
        rest(x);
        x.link(1, 2, 0);
        messageIs("2 asks 3", x, 0, 1, 2, 3, 9999);
        steps(x, 1);
        Due.is("3 has a feasible one: the goal", x.router(3, 0), 50);
        messageIs("it answers 2", x, 0, 2, 3, 2, 50);
        messageIs("and tells the goal", x, 1, 0, 3, 0, 50);
        steps(x, 2, 0);
        routerIs("2 goes by 3", x, 2, 51, 51, 3, 0);
        Counted y = new Counted();
        y.link(0, 1, 1);
        y.step();
        y.link(1, 2, 1);
        rest(y);
        y.link(2, 0, 3);
        rest(y);
        y.link(0, 1, 9);
        routerIs("1 asks the goal and 2", y, 1, 9, 9, 0, 1, 5, 0, 0);
        steps(y, 1);
        messageIs("the goal answers", y, 1, 2, 0, 1, 0);
        Due.is("and has heard it", y.between(0, 1, 1), 9);
    }

    private static void worse() {
        Counted x = row();
        x.link(1, 2, 10);
        routerIs("3 is the least but not feasible", x, 2, 11, 11, 1, 1, 10, 0, 0);
        x.link(1, 2, 5);
        Due.is("nearer is not worse", x.router(2, 6), 0);
        x.link(1, 2, 20);
        routerIs("its successor is farther now", x, 2, 11, 11, 1, 1, 10, 0, 1);
        x.undo();
        Due.is("undone it is not worse", x.router(2, 6), 0);
        x.link(1, 2, 20);
        steps(x, 1, 1, 2);
        Due.is("1 answered", x.router(2, 4), 8);
        routerIs("3 asks, too", x, 3, 12, 12, 2, 1, 4, 4, 0);
        steps(x, 1, 2);
        routerIs("3 has ended", x, 3, 12, 12, 2, 0, 0, 0, 0);
        steps(x, 2);
        routerIs("no feasible one is the least: 2 asks again", x, 2, 21, 21, 1, 1, 10, 0, 0);
        messageIs("with its distance", x, 0, 1, 2, 1, 21);
        rest(x);
        routerIs("at last by 1", x, 2, 21, 21, 1, 0);
        routerIs("at last by 2", x, 3, 22, 22, 2, 0);
    }

    private static void worseButFeasible() {
        Counted x = row();
        x.link(1, 2, 10);
        x.link(1, 2, 20);
        x.link(1, 2, 5);
        routerIs("worse it stays", x, 2, 11, 11, 1, 1, 10, 0, 1);
        steps(x, 1, 1, 2, 1, 2, 2);
        routerIs("1 is feasible and the least", x, 2, 6, 6, 1, 0, 0, 0, 0);
        Due.is("both are told", x.count(2), 2);
        messageIs("both are told", x, 0, 0, 2, 1, 6);
        messageIs("both are told", x, 1, 0, 2, 3, 6);
    }

    private static void worseAndAlone() {
        Counted x = new Counted();
        x.link(0, 1, 5);
        x.link(1, 2, 3);
        rest(x);
        x.link(0, 1, 9);
        steps(x, 0, 0);
        routerIs("2 asks its successor", x, 2, 12, 12, 1, 1, 2, 0, 0, 2);
        x.link(1, 2, 0);
        routerIs("it goes active again and ends at once", x, 2, 9999, 9999, -1, 0, 0, 0, 0, 0);
        Due.is("none is active", x.count(1), 0);
        x.link(2, 0, 4);
        rest(x);
        routerIs("and begins anew", x, 2, 4, 4, 0, 0, 0, 0, 0, 1);
    }

    private static void worseByUpdate() {
        Counted x = row();
        x.link(1, 2, 10);
        x.cut(2);
        x.link(1, 2, 0);
        steps(x, 1);
        routerIs("3 asks 2", x, 3, 12, 12, 2, 1, 4, 4, 0);
        steps(x, 0);
        routerIs("its successor has told more", x, 3, 12, 12, 2, 1, 4, 4, 1);
    }

    private static void farOneAnswers() {
        Counted x = new Counted();
        x.link(0, 1, 5);
        x.link(1, 2, 3);
        rest(x);
        x.link(0, 1, 9);
        steps(x, 0, 0);
        x.cut(2);
        x.link(0, 1, 0);
        steps(x, 1, 0, 1);
        Due.is("two replies wait", x.count(2), 2);
        messageIs("of the active one", x, 0, 2, 1, 2, 9999);
        messageIs("of the one to which all is FAR", x, 1, 2, 2, 1, 9999);
        routerIs("which stays as it is", x, 2, 9999, 9999, -1, 0, 0, 0, 0);
    }

    private static void owedBySuccessor() {
        Counted x = row();
        x.link(1, 2, 10);
        x.link(0, 1, 0);
        routerIs("1 asks 2", x, 1, 9999, 9999, 0, 1, 4, 0, 0);
        steps(x, 1);
        messageIs("1 is asked by another one: it answers at once", x, 2, 2, 1, 2, 9999);
        steps(x, 1, 1);
        routerIs("2 is asked by its successor", x, 2, 11, 11, 1, 1, 10, 2, 1);
        steps(x, 2, 1, 2, 2);
        routerIs("2 asks again and owes as before", x, 2, 9999, 9999, 1, 1, 10, 2, 0);
        rest(x);
        for (int r = 1; r < 4; r++) {
            routerIs("all is lost", x, r, 9999, 9999, -1, 0, 0, 0, 0);
        }
        // The way from 2 to 1 is gone: nothing is owed on it.
        Counted y = row();
        y.link(1, 2, 10);
        y.link(0, 1, 0);
        steps(y, 1, 1, 1);
        y.link(2, 1, 0);
        routerIs("nothing is owed to 1 any more", y, 2, 11, 11, 1, 1, 8, 0, 1);
        routerIs("and 1 has nobody to wait for", y, 1, 9999, 9999, -1, 0, 0, 0, 0, 0);
    }

    private static void cut() {
        Counted x = row();
        x.link(1, 2, 10);
        Due.is("two are out", x.cut(2), 2);
        routerIs("nobody is heard", x, 2, 9999, 9999, -1, 0, 0, 0, 0);
        Due.is("what they told is FAR", x.between(2, 1, 1), 9999);
        Due.is("what they told is FAR", x.between(2, 3, 1), 9999);
        messageIs("it tells 1", x, 2, 0, 2, 1, 9999);
        messageIs("it tells 3", x, 3, 0, 2, 3, 9999);
        Due.is("it was not a step", x.count(13), row().count(13));
        Counted y = row();
        y.link(1, 2, 10);
        steps(y, 1, 1, 2);
        Due.is("one is out", y.cut(2), 1);
        routerIs("1 has answered", y, 2, 11, 11, 1, 0, 0, 0, 0);
        Counted z = row();
        z.link(1, 2, 10);
        z.link(1, 2, 20);
        Due.is("worse", z.router(2, 6), 1);
        z.cut(2);
        routerIs("one that is cut is not worse", z, 2, 9999, 9999, -1, 0, 0, 0, 0);
    }

    private static void lateReply() {
        Counted x = row();
        x.link(1, 2, 10);
        x.cut(2);
        steps(x, 1);
        messageIs("1 answers what is cut", x, 3, 2, 1, 2, 1);
        rest(x);
        routerIs("a passive one takes what the reply tells", x, 2, 11, 11, 1, 0);
    }

    private static void waysKeepTheirOrder() {
        Counted x = row();
        x.link(0, 1, 2);
        x.link(0, 1, 0);
        Due.is("an update and a query on one way", x.between(1, 2, 4), 2);
        Due.law(x, "ranks 9;ranks 0 if kind = 1");
        x.force(0);
        Due.is("it ranks", x.message(1, 4), 0);
        steps(x, 0);
    }

    private static void ranksLeastFirst() {
        Counted x = new Counted();
        x.link(1, 2, 3);
        x.link(3, 4, 3);
        x.link(5, 6, 3);
        Due.law(x, "ranks 5;ranks 3 if from > 2");
        x.force(0);
        steps(x, 0, 0);
        messageIs("of alike ones the eldest", x, 2, 0, 5, 6);
        x.force(-1);
        steps(x, 0);
        messageIs("without a law the eldest", x, 0, 0, 2, 1);
    }

    /** Nothing is looked at in between: each step asks anew how late it is and how many wait. */
    private static void ranksByWhatIsThen() {
        String[] laws = {"ranks from if time < 1;ranks 9 - from if time > 0", "ranks from if waits > 5;ranks 9 - from if waits < 6"};
        for (String law : laws) {
            Counted x = new Counted();
            Due.law(x, law);
            x.link(3, 4, 3);
            x.link(1, 2, 3);
            x.link(5, 6, 3);
            x.force(0);
            x.step();
            x.step();
            Due.is("from 1 first", x.between(1, 2, 4), 0);
            Due.is("then from 6", x.between(6, 5, 4), 0);
            Due.is("the others wait", x.count(2), 4);
        }
    }

    private static void timeStays() {
        Counted x = new Counted();
        x.terms(0, 998);
        x.link(1, 2, 3);
        x.step();
        Due.is("time", x.count(13), 999);
        x.step();
        Due.is("time stays", x.count(13), 999);
        x.undo();
        x.undo();
        Due.is("time is undone", x.count(13), 998);
    }

    /** 1 next to the goal, the others around it; 12 messages wait. */
    private static Counted star() {
        Counted x = new Counted();
        x.link(0, 1, 5);
        x.step();
        for (int r = 2; r < 7; r++) {
            x.link(1, r, 10);
        }
        Due.is("the star's messages", x.count(2), 12);
        return x;
    }

    private static void noRoomForLink() {
        Counted x = star();
        for (int i = 0; i < 64; i++) {
            Due.is("the goal comes and goes", x.link(0, 1, 6 - i % 2), 5 + i % 2);
        }
        Due.is("six each time", x.count(2), 396);
        Due.is("no room", x.link(0, 1, 6), -5);
        Due.is("it costs as before", x.between(0, 1, 0), 5);
        Due.is("as many wait", x.count(2), 396);
        Due.is("as far as before", x.router(1, 0), 5);
        Due.is("refused by -5", x.count(10), 1);
        Due.is("status", x.status(), -5);
        Due.is("room for two", x.link(2, 3, 1), 0);
        Due.is("room for two", x.link(2, 4, 1), 0);
        Due.is("400 are not too many", x.count(2), 400);
        Due.is("no room", x.link(2, 5, 1), -5);
        Due.is("no new link", x.between(2, 5, 0), 0);
        Due.is("sixteen can be undone", x.count(5), 16);
        Due.is("orders can't be then", Due.orders(x, "link 2 to 5 as 1"), -3);
        Due.type(x, 2, 5, 1, 2, 4, 0);
        Due.is("a row goes on behind it", x.row(), 1);
        Due.is("a blot", x.blots(), 1);
        Due.is("what is lost makes room", x.count(2), 398);
    }

    private static void noRoomForStep() {
        Counted x = star();
        for (int i = 0; i < 64; i++) {
            x.link(0, 1, 6 - i % 2);
        }
        x.link(2, 3, 1);
        x.link(2, 4, 1);
        Due.law(x, "ranks 1;ranks 0 if to = 2");
        x.force(0);
        int time = x.count(13);
        Due.is("2 would tell three", x.step(), -5);
        Due.is("as many wait", x.count(2), 400);
        Due.is("no time", x.count(13), time);
        routerIs("2 has not heard", x, 2, 9999, 9999, -1, 0);
        Due.is("2 has not heard", x.between(2, 1, 1), 9999);
        Due.is("it never comes to rest", x.quiet(), -1);
        Due.is("then", x.then(2), -1);
        x.force(-1);
        Due.is("the eldest goes to the goal", x.step(), 0);
        Due.is("one less", x.count(2), 399);
        for (int i = 0; i < 16; i++) {
            x.undo();
        }
        Due.is("what is refused takes nothing of what can be undone", x.count(2), 12 + 6 * 51);
        Due.is("no more", x.undo(), -3);
    }

    private static void noRoomForCut() {
        Counted x = new Counted();
        x.link(0, 1, 5);
        for (int r : new int[] {2, 4, 5, 6}) {
            x.link(1, r, 10);
        }
        x.link(2, 3, 1);
        rest(x);
        x.link(1, 2, 40);
        routerIs("2 asks 1 and 3", x, 2, 45, 45, 1, 1, 10);
        for (int i = 0; i < 79; i++) {
            x.link(0, 1, 6 - i % 2);
        }
        Due.is("five each time", x.count(2), 397);
        x.link(4, 5, 50);
        Due.is("waiting", x.count(2), 399);
        Due.is("2 would tell both", x.cut(2), -5);
        routerIs("2 asks as before", x, 2, 45, 45, 1, 1, 10);
        Due.is("as many wait", x.count(2), 399);
        Due.is("what it heard is as before", x.between(2, 3, 1), 16);
        x.undo();
        Due.is("there is room", x.cut(2), 2);
        Due.is("waiting", x.count(2), 399);
    }

    private static void undo() {
        Counted x = row();
        int time = x.count(13);
        x.link(0, 1, 0);
        x.step();
        x.cut(2);
        x.seen(0, 1);
        Due.law(x, "ranks 3");
        x.force(0);
        Due.is("a cut", x.undo(), 2);
        routerIs("2 asks 3 and 1", x, 2, 9999, 9999, 1, 1, 10, 2);
        Due.is("a step", x.undo(), 1);
        Due.is("time", x.count(13), time);
        messageIs("it waits again", x, 0, 1, 1, 2, 9999, 3);
        Due.is("a link", x.undo(), 0);
        routerIs("as it was", x, 1, 1, 1, 0, 0, 0, 0, 0, 5);
        Due.is("it costs", x.between(1, 0, 0), 1);
        Due.is("it told", x.between(1, 0, 1), 0);
        Due.is("what was seen stays", x.count(3), 1);
        Due.is("the law stays", x.count(12), 0);
        Counted y = new Counted();
        for (int i = 1; i <= 20; i++) {
            y.link(1, 2, i);
        }
        Due.is("sixteen are kept", y.count(5), 16);
        for (int i = 19; i >= 4; i--) {
            Due.is("undone", y.undo(), 0);
            Due.is("it costs", y.between(1, 2, 0), i);
        }
        Due.is("there is none", y.undo(), -3);
        Due.is("there is none", y.status(), -3);
        y.link(1, 2, 30);
        y.terms(3, 3);
        y.row();
        y.back(0);
        Due.is("what was refused leaves it", y.count(5), 1);
        y.terms(1, 1);
        Due.is("terms", y.undo(), -3);
        y.link(1, 2, 31);
        Due.type(y, 0);
        y.row();
        Due.is("a row", y.undo(), -3);
        y.link(1, 2, 32);
        y.image(0);
        Due.is("an image leaves it", y.count(5), 1);
        y.back(0);
        Due.is("back", y.undo(), -3);
    }
}
