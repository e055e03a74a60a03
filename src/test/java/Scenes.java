/** States with which several tests begin, each made by calls alone, and what they ask of states. */
final class Scenes {
    private Scenes() {
    }

    static void rest(Counted x) {
        for (int i = 0; i < 999 && x.count(2) > 0; i++) {
            x.step();
        }
    }

    /** The goal, 1, 2, 3 in a row, each link costs 1, all told. */
    static Counted row() {
        Counted x = new Counted();
        x.link(0, 1, 1);
        x.link(1, 2, 1);
        x.link(2, 3, 1);
        rest(x);
        return x;
    }

    /** As row(), but 2 has asked 1 and 3, and nothing is delivered yet. */
    static Counted asking() {
        Counted x = row();
        x.link(1, 2, 10);
        return x;
    }

    /**
     * So many messages wait, an even number from 12 to 400. 1 is at the goal, its link costs 5 or 6; 2 to 6 are around it
     * and have heard nothing; the eldest message goes to the goal, which never answers it.
     */
    static Counted crowded(int messages) {
        Counted x = new Counted();
        x.link(0, 1, 5);
        x.step();
        for (int r = 2; r < 7; r++) {
            x.link(1, r, 10);
        }
        while (x.count(2) + 6 <= messages) {
            x.link(0, 1, 11 - x.between(0, 1, 0));
        }
        for (int r = 3; r < 7 && x.count(2) + 2 <= messages; r++) {
            x.link(2, r, 1);
        }
        Due.is("so many wait", x.count(2), messages);
        return x;
    }

    /** 2 is active, has asked 1 and 3, and so many messages wait: from 7 on, each seventh less two, or two more of it. */
    static Counted crowdedAndAsking(int messages) {
        Counted x = new Counted();
        x.link(0, 1, 5);
        for (int r : new int[] {2, 4, 5, 6}) {
            x.link(1, r, 10);
        }
        x.link(2, 3, 1);
        rest(x);
        x.link(1, 2, 40);
        while (x.count(2) + 5 <= messages) {
            x.link(0, 1, 11 - x.between(0, 1, 0));
        }
        for (int r = 5; r < 7 && x.count(2) + 2 <= messages; r++) {
            x.link(4, r, 50);
        }
        Due.is("so many wait", x.count(2), messages);
        Due.is("2 is active", x.router(2, 3), 1);
        return x;
    }

    /**
     * 6 is 9900 from a goal that is long lost, 1 is 9950, its successor is 6; 2 and 3 are FAR and alone; what is least far
     * is delivered first. What is known goes around 1 to 6, four links farther each time, and those behind it are parted
     * from each other, so that they forget it and can be told again.
     */
    static Counted nearlyFar() {
        Counted x = new Counted();
        Due.law(x, "ranks far/101");
        x.force(0);
        x.link(0, 1, 50);
        x.step();
        Due.type(x, 1, 2, 50, 2, 3, 50, 3, 4, 50, 4, 5, 50);
        x.row();
        int first = 1;
        for (int round = 1; round <= 49; round++) {
            int last = around(first + 4);
            Due.put(x, 0, ("step times 20 if distance " + last + ">999*10").chars().toArray());
            x.orders();
            Due.put(x, 0, round == 1 ? 0 : around(first + 5), first, 0, first, around(first + 1), 0,
                around(first + 1), around(first + 2), 0, around(first + 2), around(first + 3), 0,
                last, around(last + 1), 50, around(last + 1), around(last + 2), 50,
                around(last + 2), around(last + 3), round == 49 ? 0 : 50, around(last + 3), around(last + 4), round == 49 ? 0 : 50);
            x.row();
            first = last;
        }
        Due.orders(x, "step times 20 if distance 1>999*10");
        routerIs("so far", x, 6, 9900, 9900, 5, 0);
        routerIs("so far", x, 1, 9950, 9950, 6, 0);
        return x;
    }

    /** Nothing waits, though 1 waits for 3, 3 for 1 and 2 for 1: 1 owes 2 and 3 a reply, 3 owes 1 one. */
    static Counted stuck() {
        Counted x = new Counted();
        x.link(0, 1, 8);
        rest(x);
        x.link(2, 0, 7);
        rest(x);
        x.link(3, 1, 2);
        rest(x);
        x.link(0, 1, 13);
        x.link(1, 2, 6);
        steps(x, 1);
        x.cut(1);
        x.link(2, 1, 20);
        steps(x, 1, 0, 0, 2);
        x.link(1, 0, 0);
        steps(x, 0, 0, 1, 0, 0, 0, 0, 0, 0);
        x.link(0, 2, 0);
        steps(x, 1, 1, 1, 2);
        Due.is("nothing waits", x.count(2), 0);
        return x;
    }

    private static int around(int router) {
        return (router - 1) % 6 + 1;
    }

    static void routerIs(String when, Counted x, int router, int... due) {
        for (int what = 0; what < due.length; what++) {
            Due.is(when + ": router(" + router + ", " + what + ")", x.router(router, what), due[what]);
        }
    }

    static void messageIs(String when, Counted x, int i, int... due) {
        for (int what = 0; what < due.length; what++) {
            Due.is(when + ": message(" + i + ", " + what + ")", x.message(i, what), due[what]);
        }
    }

    static void steps(Counted x, int... kinds) {
        for (int i = 0; i < kinds.length; i++) {
            Due.is("step " + i, x.step(), kinds[i]);
        }
    }

    /** All that can be looked at but the tape, refusals, faults, blots, stops, days and how many can be undone. */
    static String looks(Counted x) {
        StringBuilder all = new StringBuilder();
        for (int r = 0; r < 7; r++) {
            for (int what = 0; what < 8; what++) {
                all.append(x.aside().router(r, what)).append(' ');
            }
            for (int o = 0; o < 7; o++) {
                for (int what = 0; what < 5; what++) {
                    all.append(x.aside().between(r, o, what)).append(' ');
                }
            }
        }
        int waiting = x.aside().count(2);
        for (int i = 0; i < waiting; i++) {
            for (int what = 0; what < 5; what++) {
                all.append(x.aside().message(i, what)).append(' ');
            }
        }
        for (int what : new int[] {0, 1, 2, 3, 4, 12, 13, 14, 15}) {
            all.append(x.aside().count(what)).append(' ');
        }
        return all.append(x.aside().canBe()).toString();
    }

    static void same(String when, Counted x, String before) {
        Due.is(when + ": all is as it was", looks(x).equals(before) ? 1 : 0, 1);
    }
}
