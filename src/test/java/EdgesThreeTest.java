/** The boundaries that Terms III names, sentence by sentence: links that change, deciding, active ones, steps, cuts. */
public final class EdgesThreeTest {
    private EdgesThreeTest() {
    }

    public static void main(String[] args) {
        newLinks();
        newLinksOnceMore();
        changedLinks();
        lostLinks();
        firstThenOther();
        neverTheGoal();
        passiveOnesDecide();
        activeOneLosesWhatIsOut();
        activeOneLosesWhatIsOwed();
        activeOneIsWorse();
        activeOneIsNotAskedAnew();
        activeOneEnds();
        feasibleIsLess();
        feasibleAmongAlike();
        boundIsNoMore();
        repliesAndUpdates();
        farOnes();
        feasibleButFar();
        goesActive();
        endsAtOnce();
        endsByTheLowest();
        endsFar();
        endsWorse();
        endsOwing();
        goalAnswersQueries();
        passiveOneHearsReply();
        activeOneHearsUpdate();
        activeOneHearsQuery();
        activeOneHearsReply();
        timeStays();
        cuts();
        fullByLinks();
        fullBySteps();
        fullByCuts();
        Due.closes("EdgesThreeTest");
    }

    private static void newLinks() {
        Due.about("If there was none, each of both sends the other one an UPDATE with its DISTANCE (the one told first sends first)");
        Counted x = Scenes.row();
        Due.is("there was none", x.link(3, 0, 4), 0);
        Due.is("two messages", x.count(2), 2);
        Scenes.messageIs("3 is told first", x, 0, 0, 3, 0, 3);
        Scenes.messageIs("then the goal", x, 1, 0, 0, 3, 0);
        Due.about("and what they TOLD is FAR");
        Due.is("the goal has told 3", x.between(3, 0, 1), 9999);
        Due.is("3 has told the goal", x.between(0, 3, 1), 9999);
        Scenes.routerIs("3 stays as it is", x, 3, 3, 3, 2, 0, 0, 0, 0, 5);
        Counted y = Scenes.row();
        y.link(0, 3, 4);
        Scenes.messageIs("the goal is told first", y, 0, 0, 0, 3, 0);
        Scenes.messageIs("then 3", y, 1, 0, 3, 0, 3);
        Counted z = Scenes.row();
        z.link(6, 5, 50);
        Scenes.messageIs("6 is told first", z, 0, 0, 6, 5, 9999);
        Scenes.messageIs("then 5", z, 1, 0, 5, 6, 9999);
        z.link(6, 2, 50);
        Scenes.messageIs("FAR is a distance, too", z, 2, 0, 6, 2, 9999);
        Scenes.messageIs("2's", z, 3, 0, 2, 6, 2);
    }

    private static void newLinksOnceMore() {
        Due.about("what they TOLD is FAR");
        Counted x = Scenes.row();
        x.link(2, 3, 0);
        Due.is("none any more", x.between(3, 2, 1), 9999);
        x.link(3, 2, 1);
        Due.is("there again, but nothing is heard yet", x.between(3, 2, 1), 9999);
        Due.is("the other way, too", x.between(2, 3, 1), 9999);
        Scenes.messageIs("3 has forgotten", x, 0, 0, 3, 2, 9999);
        Scenes.messageIs("2 has not", x, 1, 0, 2, 3, 2);
        Scenes.steps(x, 0, 0);
        Scenes.routerIs("3 is told anew", x, 3, 3, 3, 2, 0);
    }

    private static void changedLinks() {
        Due.about("If there was none .. If there is none any more");
        Counted x = Scenes.row();
        x.link(2, 3, 2);
        Due.is("it costs", x.between(2, 3, 0), 2);
        Due.is("it costs the other way, too", x.between(3, 2, 0), 2);
        Due.is("no update but that of the one that is farther now", x.count(2), 1);
        Scenes.messageIs("3 tells 2", x, 0, 0, 3, 2, 4);
        Due.is("what 2 told stays", x.between(3, 2, 1), 2);
        Due.is("what 3 told stays", x.between(2, 3, 1), 3);
        x.link(2, 3, 5);
        Due.is("nothing that waits is lost", x.between(3, 2, 4), 2);
    }

    private static void lostLinks() {
        Due.about("If there is none any more, all MESSAGES on it are lost, what they TOLD is FAR");
        Counted x = Scenes.row();
        x.link(0, 1, 2);
        x.link(0, 1, 3);
        Due.is("two on each way", x.count(2), 4);
        Due.is("two on each way", x.between(1, 0, 4), 2);
        x.link(0, 1, 0);
        Due.is("those to the goal are lost", x.between(1, 0, 4), 0);
        Scenes.messageIs("those to 2 wait in their order", x, 0, 0, 1, 2, 2);
        Scenes.messageIs("those to 2 wait in their order", x, 1, 0, 1, 2, 3);
        Scenes.messageIs("then comes what 1 asks", x, 2, 1, 1, 2, 9999);
        Due.is("no more", x.count(2), 3);
        Due.is("told", x.between(0, 1, 1), 9999);
        Due.is("told", x.between(1, 0, 1), 9999);
        Due.is("to others what was told stays", x.between(1, 2, 1), 2);
        Counted y = new Counted();
        y.link(1, 2, 3);
        y.link(3, 4, 5);
        y.link(1, 2, 0);
        Due.is("both ways are lost", y.count(2), 2);
        Scenes.messageIs("others are not", y, 0, 0, 3, 4, 9999);
        Scenes.messageIs("others are not", y, 1, 0, 4, 3, 9999);
    }

    /** 1 and 2 have lost the goal and wait for each other alone; 3 and 4 have told them of another way. */
    private static Counted twoThatWait() {
        Counted x = new Counted();
        x.link(0, 1, 1);
        x.link(0, 2, 1);
        x.link(1, 2, 5);
        x.link(0, 3, 1);
        x.link(0, 4, 1);
        Scenes.rest(x);
        x.link(0, 1, 0);
        x.link(0, 2, 0);
        x.link(1, 3, 1);
        x.link(2, 4, 1);
        Due.law(x, "ranks 1;ranks 0 if from>2");
        x.force(0);
        Scenes.steps(x, 0, 0);
        Scenes.routerIs("1 waits for 2", x, 1, 9999, 9999, 0, 1, 4, 0, 0, 12);
        Scenes.routerIs("2 waits for 1", x, 2, 9999, 9999, 0, 1, 2, 0, 0, 18);
        return x;
    }

    private static void firstThenOther() {
        Due.about("Then the one told first, then the other one");
        for (int first = 1; first <= 2; first++) {
            Counted x = twoThatWait();
            int other = 3 - first;
            Due.is("it cost", x.link(first, other, 0), 5);
            Due.is("four wait", x.count(2), 4);
            Scenes.messageIs("the one told first ends first", x, 2, 0, first, first + 2, 2);
            Scenes.messageIs("then the other one", x, 3, 0, other, other + 2, 2);
            Scenes.routerIs("it has ended", x, first, 2, 2, first + 2, 0, 0, 0, 0, 1 << first + 2);
            Scenes.routerIs("it has ended", x, other, 2, 2, other + 2, 0, 0, 0, 0, 1 << other + 2);
        }
    }

    private static void neverTheGoal() {
        Due.about("(never the GOAL) takes it");
        Counted x = Scenes.row();
        for (int costs : new int[] {2, 1, 50, 0}) {
            x.link(0, 1, costs);
            Scenes.routerIs("the goal", x, 0, 0, 0, -1, 0, 0, 0, 0, costs == 0 ? 0 : 2);
            Due.is("it sends nothing", x.between(0, 1, 4), 0);
        }
        x.link(0, 1, 7);
        Due.is("but when the link is new", x.between(0, 1, 4), 1);
    }

    private static void passiveOnesDecide() {
        Due.about("If it is PASSIVE, it DECIDES for nobody");
        Counted x = Scenes.row();
        x.link(2, 1, 3);
        Scenes.routerIs("by 1, which is feasible", x, 2, 4, 2, 1, 0, 0, 0, 0, 10);
        Due.is("farther by a feasible one: two updates", x.count(2), 2);
        Scenes.messageIs("no reply", x, 0, 0, 2, 1, 4);
        Scenes.messageIs("no reply", x, 1, 0, 2, 3, 4);
        Counted y = Scenes.asking();
        Scenes.routerIs("active it owes nobody", y, 2, 11, 11, 1, 1, 10, 0, 0, 10);
        Due.is("two queries", y.count(2), 2);
    }

    private static void activeOneLosesWhatIsOut() {
        Due.about("If it is ACTIVE: the LINK being gone, .. if its reply is OUT, it is no more");
        Counted x = Scenes.asking();
        Due.is("to 3", x.link(2, 3, 0), 1);
        Scenes.routerIs("1 is out alone", x, 2, 11, 11, 1, 1, 2, 0, 0, 2);
        Scenes.routerIs("3 is alone", x, 3, 9999, 9999, -1, 0, 0, 0, 0, 0);
        Scenes.steps(x, 1, 2);
        Scenes.routerIs("1 has answered", x, 2, 11, 11, 1, 0, 0, 0, 0, 2);
        Counted y = Scenes.asking();
        y.link(2, 3, 7);
        Due.is("a link that costs more is not gone", y.router(2, 4), 10);
    }

    private static void activeOneLosesWhatIsOwed() {
        Due.about("If it is ACTIVE: the LINK being gone, nothing is OWED to the other one");
        Counted x = Scenes.row();
        x.link(0, 1, 0);
        Scenes.steps(x, 1);
        Scenes.routerIs("2 owes 1", x, 2, 9999, 9999, 1, 1, 10, 2, 0, 10);
        x.link(1, 2, 2);
        Due.is("a link that costs more is not gone", x.router(2, 5), 2);
        x.link(1, 2, 0);
        Scenes.routerIs("nothing is owed, 3 is out; FAR is not more than FAR", x, 2, 9999, 9999, 1, 1, 8, 0, 0, 8);
        Scenes.routerIs("1 has ended", x, 1, 9999, 9999, -1, 0, 0, 0, 0, 0);
        Scenes.rest(x);
        Scenes.routerIs("2 has ended", x, 2, 9999, 9999, -1, 0, 0, 0, 0, 8);
        Counted y = Scenes.stuck();
        y.link(1, 3, 0);
        Scenes.routerIs("to the others it is owed yet", y, 1, 9999, 9999, 2, 1, 4, 4, 0, 4);
    }

    private static void activeOneIsWorse() {
        Due.about("if the other one is its SUCCESSOR and BY it is more than its DISTANCE, it is WORSE");
        int[] costs = {9, 10, 11, 0, 50, 1};
        int[] worse = {0, 0, 1, 1, 1, 0};
        for (int i = 0; i < costs.length; i++) {
            Counted x = Scenes.asking();
            if (costs[i] == 10) {
                x.link(1, 2, 9);
            }
            x.link(1, 2, costs[i]);
            Due.is("11 far, by 1 with " + costs[i], x.router(2, 6), worse[i]);
            Due.is("its distance stays", x.router(2, 0), 11);
            Due.is("its bound stays", x.router(2, 1), 11);
        }
        Counted x = Scenes.asking();
        x.link(2, 3, 50);
        Due.is("by 3 it is more, but that is not its successor", x.router(2, 6), 0);
        x.link(2, 3, 0);
        Due.is("nor when it is lost", x.router(2, 6), 0);
    }

    private static void activeOneIsNotAskedAnew() {
        Due.about("replies of all NEIGHBOURS are OUT");
        Counted x = Scenes.asking();
        x.link(2, 4, 1);
        Scenes.routerIs("a neighbour that came later is not asked", x, 2, 11, 11, 1, 1, 10, 0, 0, 26);
        Scenes.messageIs("it is told", x, 2, 0, 2, 4, 11);
        Due.is("four wait", x.count(2), 4);
    }

    private static void activeOneEnds() {
        Due.about("if no reply is OUT any more, it ENDS");
        Counted x = twoThatWait();
        x.link(1, 2, 6);
        Due.is("one is out yet", x.router(1, 3) + x.router(2, 3), 2);
        x.link(1, 2, 0);
        Due.is("none is", x.router(1, 3) + x.router(2, 3), 0);
        Counted y = Scenes.asking();
        y.link(1, 2, 0);
        Scenes.routerIs("3 is out", y, 2, 11, 11, 1, 1, 8, 0, 1, 8);
        y.link(2, 3, 0);
        Scenes.routerIs("worse, so active again, but alone", y, 2, 9999, 9999, -1, 0, 0, 0, 0, 0);
        Due.is("nothing waits", y.count(2), 0);
    }

    /** 1 is 5 far from the goal; 2, its neighbour, so far as told; what 2 costs is 1. */
    private static Counted twoWays(int far) {
        Counted x = new Counted();
        x.link(0, 1, 5);
        x.link(0, 2, far);
        x.link(1, 2, 1);
        Scenes.rest(x);
        Due.is("1 is 5 far", x.router(1, 0), 5);
        Due.is("2 told it", x.between(1, 2, 1), far);
        return x;
    }

    private static void feasibleIsLess() {
        Due.about("FEASIBLE is a NEIGHBOUR that TOLD less than its BOUND");
        Counted x = twoWays(4);
        Due.is("4 is less than 5", x.between(1, 2, 3), 1);
        x.link(0, 1, 7);
        Scenes.routerIs("it goes by 2", x, 1, 5, 5, 2, 0);
        Counted y = twoWays(5);
        Due.is("5 is not less than 5", y.between(1, 2, 3), 0);
        y.link(0, 1, 7);
        Scenes.routerIs("by 2 it would be 6, but that is not feasible: it asks", y, 1, 7, 7, 0, 1, 5, 0, 0, 5);
        Counted z = twoWays(6);
        Due.is("6 is not less than 5", z.between(1, 2, 3), 0);
        Counted w = new Counted();
        w.link(1, 2, 1);
        Scenes.rest(w);
        Due.is("FAR is not less than FAR", w.between(1, 2, 3), 0);
        w.link(0, 3, 1);
        Scenes.rest(w);
        Due.is("one without a link is none", w.between(3, 2, 3), 0);
        Due.is("to the goal none is", w.between(0, 3, 3), 0);
    }

    /** 3 is 5 far by 2, which is feasible; by 1, which told 5 and is not, it is 6. */
    private static Counted twoThatAreAlike() {
        Counted x = new Counted();
        x.link(0, 2, 2);
        x.link(2, 3, 3);
        x.link(0, 1, 5);
        x.link(1, 3, 1);
        Scenes.rest(x);
        Scenes.routerIs("by 2", x, 3, 5, 5, 2, 0);
        return x;
    }

    private static void feasibleAmongAlike() {
        Due.about("If BY some FEASIBLE one is the least BY any NEIGHBOUR .. the lowest such is its SUCCESSOR");
        Counted x = twoThatAreAlike();
        x.link(2, 3, 4);
        Due.is("by 1", x.between(3, 1, 2), 6);
        Due.is("by 2", x.between(3, 2, 2), 6);
        Scenes.routerIs("1 is lower, but 2 is feasible", x, 3, 6, 5, 2, 0);
        x.link(2, 3, 5);
        Scenes.routerIs("now 1 alone is the least", x, 3, 7, 7, 2, 1, 6, 0, 0);
        Counted y = new Counted();
        y.link(0, 5, 2);
        y.link(0, 4, 2);
        y.link(5, 6, 1);
        Scenes.rest(y);
        Due.is("by 5", y.router(6, 2), 5);
        y.link(4, 6, 1);
        Scenes.rest(y);
        Scenes.routerIs("both are feasible and alike: the lowest", y, 6, 3, 3, 4, 0);
        Due.is("as far as before, so nothing is told", y.count(2), 0);
    }

    private static void boundIsNoMore() {
        Due.about("that is its DISTANCE, BOUND is no more than that");
        Counted x = new Counted();
        x.link(0, 1, 9);
        x.step();
        int[] costs = {20, 9, 8, 50, 1, 2};
        int[] bound = {9, 9, 8, 8, 1, 1};
        for (int i = 0; i < costs.length; i++) {
            x.link(0, 1, costs[i]);
            Scenes.routerIs("it costs " + costs[i], x, 1, costs[i], bound[i], 0, 0);
        }
    }

    private static void repliesAndUpdates() {
        Due.about("it sends a REPLY to the asker, and if its DISTANCE is another one than before, an UPDATE to all other NEIGHBOURS, rising");
        Counted x = Scenes.asking();
        Scenes.steps(x, 1);
        Due.is("1 is as far as before", x.router(1, 0), 1);
        Due.is("one query waits, and a reply", x.count(2), 2);
        Scenes.messageIs("the reply alone", x, 1, 2, 1, 2, 1);
        Counted y = Scenes.row();
        for (int r = 4; r < 7; r++) {
            y.link(3, r, 10);
        }
        y.link(0, 3, 9);
        Scenes.rest(y);
        y.link(1, 2, 0);
        Scenes.steps(y, 1);
        Scenes.routerIs("3 goes by the goal", y, 3, 9, 3, 0, 0, 0, 0, 0, 117);
        Scenes.messageIs("a reply to the asker first", y, 0, 2, 3, 2, 9);
        int[] others = {0, 4, 5, 6};
        for (int i = 0; i < 4; i++) {
            Scenes.messageIs("updates to the others, rising", y, 1 + i, 0, 3, others[i], 9);
        }
        Due.is("no more", y.count(2), 5);
    }

    private static void farOnes() {
        Due.about("Else, if its DISTANCE is FAR, and the least BY any NEIGHBOUR is, too: it has no SUCCESSOR; it sends a REPLY to the asker");
        Counted x = new Counted();
        x.link(0, 1, 5);
        x.link(1, 2, 3);
        Scenes.rest(x);
        x.link(0, 1, 9);
        Scenes.steps(x, 0, 0);
        x.cut(2);
        x.link(0, 1, 0);
        Scenes.steps(x, 1, 0, 1);
        Scenes.routerIs("2 is FAR, and so is 1", x, 2, 9999, 9999, -1, 0, 0, 0, 0, 2);
        Scenes.messageIs("it answers", x, 1, 2, 2, 1, 9999);
        Due.is("no update", x.count(2), 2);
        Counted y = new Counted();
        y.link(5, 6, 3);
        Scenes.steps(y, 0, 0);
        Scenes.routerIs("for nobody: it sends nothing", y, 5, 9999, 9999, -1, 0, 0, 0, 0, 64);
        Due.is("nothing waits", y.count(2), 0);
        y.link(5, 6, 4);
        Due.is("nor behind a change", y.count(2), 0);
    }

    private static void feasibleButFar() {
        Due.about("If BY some FEASIBLE one is the least BY any NEIGHBOUR, and not FAR");
        Counted x = Scenes.nearlyFar();
        x.link(1, 2, 49);
        Scenes.steps(x, 0);
        Due.is("1 is feasible", x.between(2, 1, 3), 1);
        Due.is("but FAR", x.between(2, 1, 2), 9999);
        Scenes.routerIs("so 2 has no successor", x, 2, 9999, 9999, -1, 0, 0, 0, 0, 2);
        x.link(1, 2, 48);
        Scenes.routerIs("one less, and it has", x, 2, 9998, 9998, 1, 0, 0, 0, 0, 2);
        x.link(1, 2, 50);
        Scenes.routerIs("it was not FAR before, so it asks", x, 2, 9999, 9999, 1, 1, 2, 0, 0, 2);
        Due.about("(none, if that is FAR)");
        Due.law(x, "ranks 1;ranks 0 if from+to=3");
        x.force(1);
        Scenes.steps(x, 0, 0, 1, 2);
        Due.is("1 told", x.between(2, 1, 1), 9950);
        Scenes.routerIs("by 1 it is FAR yet", x, 2, 9999, 9999, -1, 0, 0, 0, 0, 2);
    }

    private static void goesActive() {
        Due.about("To GO ACTIVE: its DISTANCE is that BY its SUCCESSOR, BOUND, too; .. each is sent a QUERY, rising");
        Counted x = new Counted();
        x.link(0, 6, 1);
        x.step();
        for (int r = 1; r < 6; r++) {
            x.link(6, r, r);
        }
        Scenes.rest(x);
        x.link(0, 6, 50);
        Scenes.routerIs("by its successor, all six are out", x, 6, 50, 50, 0, 1, 63, 0, 0, 63);
        for (int r = 0; r < 6; r++) {
            Scenes.messageIs("rising, the successor, too", x, r, 1, 6, r, 50);
        }
        Due.is("six", x.count(2), 6);
        Due.about("Else it GOES ACTIVE, owing the asker a reply");
        Counted y = Scenes.row();
        y.link(0, 1, 0);
        Scenes.steps(y, 1);
        Scenes.routerIs("2 owes 1, and asks it, too", y, 2, 9999, 9999, 1, 1, 10, 2, 0, 10);
        Scenes.messageIs("the asker is asked", y, 0, 1, 2, 1, 9999);
        Scenes.messageIs("the others, too", y, 1, 1, 2, 3, 9999);
    }

    private static void endsAtOnce() {
        Due.about("without NEIGHBOURS it ENDS at once");
        Counted x = Scenes.row();
        x.link(3, 2, 0);
        Scenes.routerIs("3 is alone", x, 3, 9999, 9999, -1, 0, 0, 0, 0, 0);
        Due.is("nothing waits", x.count(2), 0);
        Scenes.routerIs("2 is as it was", x, 2, 2, 2, 1, 0, 0, 0, 0, 2);
    }

    private static void endsByTheLowest() {
        Due.about("If it is not WORSE: its DISTANCE and BOUND are the least BY any NEIGHBOUR, the lowest such is its SUCCESSOR");
        Counted x = Scenes.row();
        x.link(0, 4, 1);
        x.link(0, 5, 1);
        Scenes.rest(x);
        x.link(1, 2, 10);
        x.link(2, 5, 3);
        x.link(2, 4, 3);
        Due.law(x, "ranks 1;ranks 0 if to=2 and from>3");
        x.force(0);
        Scenes.steps(x, 0, 0);
        int waiting = x.count(2);
        Due.is("two are out", x.cut(2), 2);
        Scenes.routerIs("by 4 and by 5 it is 4: the lowest", x, 2, 4, 4, 4, 0, 0, 0, 0, 58);
        int[] all = {1, 3, 4, 5};
        for (int i = 0; i < 4; i++) {
            Scenes.messageIs("an update to all, rising", x, waiting + i, 0, 2, all[i], 4);
        }
        Counted y = Scenes.asking();
        y.cut(2);
        Due.is("what is least may be no less than it was told", y.router(2, 0), 9999);
        Counted z = Scenes.asking();
        Scenes.rest(z);
        Scenes.routerIs("bound and distance rise", z, 2, 11, 11, 1, 0);
        Scenes.routerIs("bound and distance rise", z, 3, 12, 12, 2, 0);
    }

    private static void endsFar() {
        Due.about("the lowest such is its SUCCESSOR (none, if that is FAR)");
        Counted x = Scenes.row();
        x.link(0, 1, 0);
        Scenes.rest(x);
        for (int r = 1; r < 4; r++) {
            Scenes.routerIs("all is FAR", x, r, 9999, 9999, -1, 0, 0, 0, 0);
        }
        Due.is("no active one is left", x.count(1), 0);
    }

    private static void endsWorse() {
        Due.about("If it is WORSE: if BY some FEASIBLE one (by BOUND as it is) is the least BY any, and not FAR, it takes that as when it DECIDES");
        Counted x = Scenes.asking();
        x.link(1, 2, 20);
        x.link(1, 2, 5);
        Scenes.routerIs("worse", x, 2, 11, 11, 1, 1, 10, 0, 1);
        Scenes.steps(x, 1, 1, 2, 1, 2, 2);
        Scenes.routerIs("1 told 1, less than 11", x, 2, 6, 6, 1, 0, 0, 0, 0);
        Due.about("else it GOES ACTIVE again, owing what it owed");
        Counted y = Scenes.asking();
        y.link(2, 3, 0);
        y.link(1, 2, 20);
        Scenes.steps(y, 1, 2);
        Scenes.routerIs("1 is feasible: it takes that, and its bound stays", y, 2, 21, 11, 1, 0, 0, 0, 0, 2);
        Counted z = Scenes.row();
        z.link(1, 2, 10);
        z.link(0, 1, 0);
        Scenes.steps(z, 1, 1, 1, 2, 1, 2, 2);
        Scenes.routerIs("by none it is not FAR: active again, owing 1", z, 2, 9999, 9999, 1, 1, 10, 2, 0);
        Due.is("it is asked again", z.between(2, 1, 4), 1);
    }

    private static void endsOwing() {
        Due.about("it sends a REPLY to all to which one is OWED, rising, and if its DISTANCE is another one than ahead of that, an UPDATE to all other NEIGHBOURS");
        Counted x = Scenes.stuck();
        Scenes.routerIs("1 owes 2 and 3", x, 1, 27, 27, 2, 1, 8, 12, 1, 12);
        Scenes.routerIs("3 owes 1", x, 3, 15, 15, 1, 1, 2, 2, 1, 2);
        Due.is("three are active, and nothing waits", x.count(1), 3);
        x.link(1, 4, 9);
        Due.is("3 is out", x.cut(1), 1);
        Scenes.routerIs("1 has ended", x, 1, 9999, 9999, -1, 0, 0, 0, 0, 28);
        Scenes.messageIs("a reply", x, 2, 2, 1, 2, 9999);
        Scenes.messageIs("a reply", x, 3, 2, 1, 3, 9999);
        Scenes.messageIs("an update to the other one", x, 4, 0, 1, 4, 9999);
        Due.is("no more", x.count(2), 5);
        Counted y = Scenes.row();
        y.link(0, 1, 0);
        Scenes.steps(y, 1, 1, 1);
        Scenes.routerIs("3 owes 2", y, 3, 9999, 9999, 2, 1, 4, 4, 0);
        Scenes.steps(y, 2, 1);
        Scenes.routerIs("2 waits for 3", y, 2, 9999, 9999, 1, 1, 8, 2, 0);
        Scenes.steps(y, 2);
        Scenes.messageIs("3 ends as far as it was: a reply", y, 0, 2, 3, 2, 9999);
        Due.is("and no update", y.count(2), 1);
        Due.is("nothing is owed any more", y.router(3, 5), 0);
    }

    private static void goalAnswersQueries() {
        Due.about("The GOAL sends a REPLY to a QUERY, nothing else");
        Counted x = new Counted();
        x.link(0, 1, 5);
        x.link(0, 2, 5);
        x.link(1, 2, 1);
        Scenes.rest(x);
        x.link(0, 1, 8);
        Scenes.messageIs("1 asks the goal", x, 0, 1, 1, 0, 8);
        Scenes.steps(x, 1);
        Scenes.messageIs("the goal replies behind what waits", x, 1, 2, 0, 1, 0);
        Due.is("two wait", x.count(2), 2);
        Due.is("it has heard", x.between(0, 1, 1), 8);
        Counted y = new Counted();
        y.link(1, 0, 5);
        Scenes.steps(y, 0);
        Due.is("to an update it sends nothing", y.count(2), 1);
        Due.is("it has heard", y.between(0, 1, 1), 9999);
        Scenes.steps(y, 0, 0);
        Due.is("it has heard", y.between(0, 1, 1), 5);
        Due.is("nothing", y.count(2), 0);
    }

    private static void passiveOneHearsReply() {
        Due.about("A PASSIVE one DECIDES: for the sender of a QUERY, else for nobody");
        Counted x = Scenes.asking();
        Scenes.steps(x, 1);
        x.cut(2);
        Due.law(x, "ranks 1;ranks 0 if kind=2");
        x.force(0);
        Scenes.steps(x, 2);
        Scenes.routerIs("what a late reply told is taken", x, 2, 11, 11, 1, 0, 0, 0, 0);
        Due.is("no reply to a reply", x.message(x.count(2) - 1, 0), 0);
    }

    private static void activeOneHearsUpdate() {
        Due.about("An ACTIVE one: UPDATE: if the sender is its SUCCESSOR and BY it is more than its DISTANCE, it is WORSE");
        int[] costs = {1, 2, 3};
        for (int c : costs) {
            Counted x = Scenes.row();
            x.link(0, 1, 2);
            Scenes.rest(x);
            Due.is("2 is 3 far", x.router(2, 0), 3);
            x.link(1, 2, 9);
            Due.is("2 asks, 11 far", x.router(2, 0), 11);
            x.link(0, 1, c == 2 ? 1 : c);
            if (c == 2) {
                x.link(0, 1, 2);
            }
            Due.law(x, "ranks 1;ranks 0 if from=1 and to=2");
            x.force(0);
            Scenes.steps(x, 0);
            if (c == 2) {
                Scenes.steps(x, 0);
            }
            Due.is("1 told", x.between(2, 1, 1), c);
            Scenes.routerIs("1 told " + c, x, 2, 11, 11, 1, 1, 10, 0, c == 3 ? 1 : 0);
        }
        Counted y = Scenes.asking();
        y.link(2, 5, 1);
        y.link(3, 2, 40);
        Due.law(y, "ranks 1;ranks 0 if from=5");
        y.force(0);
        Scenes.steps(y, 0);
        Due.is("of another one FAR is heard", y.router(2, 6), 0);
    }

    private static void activeOneHearsQuery() {
        Due.about("QUERY: from its SUCCESSOR: a reply is OWED to it, it is WORSE; from others: it sends a REPLY at once");
        Counted x = Scenes.row();
        x.link(1, 2, 10);
        x.link(0, 1, 0);
        Scenes.steps(x, 1);
        Scenes.messageIs("1 is active, 2 is not its successor: at once", x, 2, 2, 1, 2, 9999);
        Due.is("nothing is owed", x.router(1, 5), 0);
        Due.is("nor is it worse", x.router(1, 6), 0);
        Scenes.steps(x, 1);
        int before = x.count(2);
        Scenes.steps(x, 1);
        Scenes.routerIs("2 is asked by its successor", x, 2, 11, 11, 1, 1, 10, 2, 1);
        Due.is("nothing is sent", x.count(2), before - 1);
    }

    private static void activeOneHearsReply() {
        Due.about("REPLY: that is not OUT any more; if none is, it ENDS");
        Counted x = Scenes.asking();
        Scenes.steps(x, 1, 1, 2);
        Scenes.routerIs("1 has answered", x, 2, 11, 11, 1, 1, 8, 0, 0);
        Scenes.steps(x, 1, 2, 2);
        Scenes.routerIs("both have", x, 2, 11, 11, 1, 0, 0, 0, 0);
        Counted y = Scenes.row();
        y.link(0, 5, 1);
        Scenes.rest(y);
        y.link(1, 2, 10);
        Scenes.steps(y, 1);
        Scenes.messageIs("1 has sent its reply", y, 1, 2, 1, 2, 1);
        y.cut(2);
        y.link(2, 5, 1);
        Due.law(y, "ranks 1;ranks 0 if from=5 or kind=2");
        Due.law(y, "ranks 1;ranks 0 if from=5");
        y.force(1);
        Scenes.steps(y, 0);
        y.link(2, 5, 0);
        Scenes.routerIs("2 asks once more", y, 2, 9999, 9999, 5, 1, 10, 0, 0);
        y.force(0);
        Scenes.steps(y, 2);
        Scenes.routerIs("a reply to what was asked earlier is a reply", y, 2, 9999, 9999, 5, 1, 8, 0, 0);
        Due.is("1 told", y.between(2, 1, 1), 1);
    }

    private static void timeStays() {
        Due.about("TIME is one more (999 stays)");
        Counted x = Scenes.asking();
        x.terms(0, 997);
        Scenes.steps(x, 1);
        Due.is("998", x.count(13), 998);
        Scenes.steps(x, 1);
        Due.is("999", x.count(13), 999);
        Scenes.steps(x, 2);
        Due.is("999 stays", x.count(13), 999);
        x.link(5, 6, 1);
        x.cut(3);
        Due.is("neither a link nor a cut is time", x.count(13), 999);
        Counted y = Scenes.asking();
        y.terms(0, 0);
        y.cut(2);
        y.link(5, 6, 1);
        Due.is("neither a link nor a cut is time", y.count(13), 0);
    }

    private static void cuts() {
        Due.about("To CUT an ACTIVE one: of all from which a reply is OUT what they TOLD is FAR, none is OUT, it is not WORSE, it ENDS");
        Counted x = Scenes.asking();
        x.link(1, 2, 20);
        Scenes.steps(x, 1, 1, 2);
        Scenes.routerIs("worse, 3 is out", x, 2, 11, 11, 1, 1, 8, 0, 1);
        Due.is("one is out", x.cut(2), 1);
        Due.is("what 3 told is FAR", x.between(2, 3, 1), 9999);
        Due.is("what 1 told stays", x.between(2, 1, 1), 1);
        Scenes.routerIs("it is not worse, so it takes the least", x, 2, 21, 21, 1, 0, 0, 0, 0);
        Due.is("passive, it can't be cut again", x.cut(2), -3);
        Counted y = new Counted();
        y.link(0, 6, 1);
        y.step();
        for (int r = 1; r < 6; r++) {
            y.link(6, r, r);
        }
        Scenes.rest(y);
        y.link(0, 6, 50);
        Due.is("as many as can be", y.cut(6), 6);
        for (int r = 0; r < 6; r++) {
            Due.is("what they told is FAR", y.between(6, r, 1), 9999);
        }
    }

    private static void fullByLinks() {
        Due.about("If there would be more than 400 MESSAGES at the end of a LINK's change, .. it can't be: all is as it was");
        Counted x = Scenes.crowded(398);
        Due.is("400 are not more than 400", x.link(3, 5, 1), 0);
        Due.is("400", x.count(2), 400);
        String before = Scenes.looks(x);
        int undone = x.count(5);
        Due.is("402 are", x.link(4, 5, 1), -5);
        Due.is("so are 406", x.link(0, 1, 11 - x.between(0, 1, 0)), -5);
        Scenes.same("refused", x, before);
        Due.is("what can be undone stays", x.count(5), undone);
        Due.is("what is lost makes room for what is sent", x.link(0, 1, 0), x.between(0, 1, 0) + 5);
        Due.is("1 asks five", x.router(1, 4), 124);
        Counted y = Scenes.crowdedAndAsking(399);
        String then = Scenes.looks(y);
        Due.is("401 are more, too", y.link(3, 5, 1), -5);
        Scenes.same("refused", y, then);
    }

    private static void fullBySteps() {
        Due.about("If there would be more than 400 MESSAGES at the end of .. a STEP, .. it can't be: all is as it was");
        Counted x = Scenes.crowded(396);
        x.link(5, 6, 1);
        x.link(3, 4, 1);
        Due.law(x, "ranks 1;ranks 0 if to=2");
        x.force(0);
        Scenes.steps(x, 0);
        Due.is("2 tells 1 alone: 400", x.count(2), 400);
        Due.law(x, "ranks 1;ranks 0 if to=3 and from=1");
        x.force(1);
        String before = Scenes.looks(x);
        int undone = x.count(5);
        Due.is("3 would tell 1 and 4: 401", x.step(), -5);
        Scenes.same("refused", x, before);
        Due.is("what can be undone stays", x.count(5), undone);
        Due.is("undone", x.undo(), 1);
        Due.is("2 has not heard", x.router(2, 0), 9999);
        Counted y = Scenes.crowded(400);
        Due.is("to the goal there is room", y.step(), 0);
        Due.is("399", y.count(2), 399);
    }

    private static void fullByCuts() {
        Due.about("If there would be more than 400 MESSAGES at the end of .. a CUT, it can't be: all is as it was");
        Counted x = Scenes.crowdedAndAsking(399);
        String before = Scenes.looks(x);
        int undone = x.count(5);
        Due.is("401", x.cut(2), -5);
        Scenes.same("refused", x, before);
        Due.is("what can be undone stays", x.count(5), undone);
        Due.law(x, "ranks 1;ranks 0 if to=0");
        x.force(0);
        Scenes.steps(x, 0);
        Due.is("398", x.count(2), 398);
        Due.is("400", x.cut(2), 2);
        Due.is("400", x.count(2), 400);
    }
}
