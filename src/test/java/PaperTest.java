/** Promises 22, 23, 28 to 31: what is worked out on paper, and that it leaves all as it is. */
public final class PaperTest {
    private PaperTest() {
    }

    public static void main(String[] args) {
        quiet();
        longQuiet();
        fullQuiet();
        compare();
        few();
        draws();
        days();
        drawn();
        Due.closes("PaperTest");
    }

    /** 1 at the goal, 2 behind it: seven steps till all is told. */
    private static Counted row() {
        Counted x = new Counted();
        x.link(0, 1, 5);
        x.link(1, 2, 3);
        return x;
    }

    private static void quiet() {
        Counted x = row();
        Due.is("seven steps", x.quiet(), 7);
        int[] due = {0, 5, 8, 9999, 9999, 9999, 9999};
        for (int r = 0; r < 7; r++) {
            Due.is("then(" + r + ")", x.then(r), due[r]);
        }
        Due.is("no router", x.then(-1), -1);
        Due.is("no router", x.then(7), -1);
        Due.is("it was on paper", x.router(1, 0), 9999);
        Due.is("no step was made", x.count(2), 4);
        Due.is("no time went by", x.count(13), 0);
        Due.is("nothing new can be undone", x.count(5), 2);
        for (int left = 6; left >= 0; left--) {
            x.step();
            Due.is("one less each time", x.quiet(), left);
        }
    }

    /** More than 999 steps, though never more than 400 messages: those from 1 come last. */
    private static void longQuiet() {
        Counted x = new Counted();
        x.link(0, 1, 5);
        for (int r = 2; r < 7; r++) {
            x.link(1, r, 10);
        }
        x.link(2, 3, 50);
        x.link(3, 4, 50);
        x.link(4, 5, 50);
        x.link(5, 6, 50);
        x.link(6, 2, 50);
        for (int i = 0; i < 200 && x.count(2) > 0; i++) {
            x.step();
        }
        for (int i = 0; i < 66; i++) {
            x.link(0, 1, 6 - i % 2);
        }
        Due.law(x, "ranks 1 if from = 1");
        x.force(0);
        Due.is("all wait", x.count(2), 396);
        Due.is("too long", x.quiet(), -1);
        Due.is("too long", x.then(1), -1);
        Due.is("it can't be in the order of age", x.compare(-1), -1);
        Due.is("too long", x.compare(0), -1);
        int tooMany = 66 + 66 * 5 * 4 - 999;
        manySteps(x, tooMany - 1);
        Due.is("a step too long", x.quiet(), -1);
        x.step();
        Due.is("as long as can be", x.quiet(), 999);
        Due.is("then", x.then(2), 15);
        manySteps(x, 999);
        Due.is("quiet", x.count(2), 0);
        Due.is("time stays at its most", x.count(13), 999);
    }

    /** By orders: one call a step would be more than an object is used for. */
    private static void manySteps(Counted x, int steps) {
        for (int left = steps; left > 0; left -= 240) {
            StringBuilder text = new StringBuilder();
            for (int part = Math.min(left, 240); part > 0; part -= 20) {
                text.append(text.length() == 0 ? "" : ";").append("step times ").append(Math.min(part, 20));
            }
            Due.is("each step can be", Due.orders(x, text.toString()), Math.min(left, 240));
        }
    }

    /** 400 wait, and 400 behind the first step, too. */
    private static void fullQuiet() {
        Counted x = new Counted();
        x.link(0, 1, 5);
        x.step();
        for (int r = 2; r < 6; r++) {
            x.link(1, r, 10);
        }
        for (int i = 0; i < 78; i++) {
            x.link(0, 1, 6 - i % 2);
        }
        Due.is("all wait", x.count(2), 400);
        Due.law(x, "ranks 1;ranks 0 if to = 2");
        x.force(0);
        Due.is("each of four answers each of 79", x.quiet(), 400 + 4 * 79);
        Due.is("then", x.then(5), 15);
    }

    private static void compare() {
        Counted x = row();
        Due.is("without a law", x.compare(-1), 7);
        Due.is("no such law", x.compare(0), -1);
        Due.is("no such law", x.compare(-2), -1);
        Counted y = new Counted();
        Due.law(y, "ranks 2 - kind");
        y.link(0, 3, 42);
        y.step();
        y.link(3, 1, 5);
        y.link(1, 0, 33);
        y.link(0, 3, 0);
        Model m = new Model();
        m.link(0, 3, 42);
        m.step();
        m.link(3, 1, 5);
        m.link(1, 0, 33);
        m.link(0, 3, 0);
        Due.is("without", y.compare(-1), m.quiet());
        Due.is("it matters by which law", y.compare(0) == y.compare(-1) ? 1 : 0, 0);
        Due.is("none is in force", y.quiet(), y.compare(-1));
        int by = y.compare(0);
        y.force(0);
        Due.is("it is in force", y.quiet(), by);
        Due.is("in place of it", y.compare(-1), m.quiet());
        Due.is("comparing is no status", y.compare(9), -1);
        Due.is("comparing is no status", y.status(), 0);
    }

    private static void few() {
        Counted x = new Counted();
        Due.is("none is sent", x.few(1, 0), 1000000000000L);
        Due.is("none is sent", x.few(20, 0), 1000000000000L);
        Due.is("none slips", x.few(1, 1), 900000000000L);
        Due.is("none of two", x.few(1, 2), 810000000000L);
        Due.is("at most one of two", x.few(2, 2), 990000000000L);
        Due.is("at most two of two", x.few(3, 2), 1000000000000L);
        x.terms(1, 3);
        // 0.7 to the third is 0.343, three times 0.3 times 0.49 is 0.441.
        Due.is("none of three", x.few(1, 3), 343000000000L);
        Due.is("at most one of three", x.few(2, 3), 784000000000L);
        // 7 to the thirteenth is 96889010407, of 10 to the thirteenth: the last digit is cut off.
        Due.is("cut", x.few(1, 13), 9688901040L);
        x.terms(1, 10);
        Due.is("all slip", x.few(1, 1), 0);
        Due.is("all slip", x.few(20, 19), 1000000000000L);
        Due.is("all slip", x.few(20, 20), 0);
        x.terms(1, 0);
        Due.is("none slips", x.few(1, 99), 1000000000000L);
        int[][] bad = {{0, 5}, {21, 5}, {1, -1}, {1, 100}, {-1, 5}};
        for (int[] b : bad) {
            Due.is("it can't be", x.few(b[0], b[1]), -1);
        }
        Due.is("not refused", x.count(7), 0);
    }

    /** What each draw tells, by the document's own words. */
    private static long next(long s) {
        return (s * 1103 + 12345) % 1000003;
    }

    private static void draws() {
        for (int seed = 0; seed <= 1000000; seed += 997) {
            Counted x = new Counted();
            long a = next(seed);
            long b = next(a);
            long c = next(b);
            long d = next(c);
            boolean links = d % 8 < 2 && a % 7 != b % 7 && c % 12 != 0;
            Due.is("days(" + seed + ", 1)", x.days(seed, 1), links ? 2 : 0);
            x.link(0, 1, 1);
            boolean steps = d % 8 >= 2 && d % 8 <= 6;
            boolean again = links && (a % 7) + (b % 7) == 1;
            int due = steps ? 2 : !links ? 2 : again ? 2 : 4;
            if (d % 8 < 2 && c % 12 == 0 && a % 7 + b % 7 == 1) {
                due = 0;
            }
            Due.is("days(" + seed + ", 1) with a link", x.days(seed, 1), due);
        }
    }

    private static void days() {
        Counted x = row();
        Due.is("seed below 0", x.days(-1, 1), -1);
        Due.is("seed too high", x.days(1000001, 1), -1);
        Due.is("no day", x.days(0, 0), -1);
        Due.is("too many", x.days(0, 61), -1);
        Due.is("refused by -1", x.count(7), 4);
        Due.is("none were drawn", x.drawn(0, 0), -1);
        Due.is("the least of both", x.days(0, 1) < 0 ? 1 : 0, 0);
        Due.is("the most of both", x.days(1000000, 60) < 0 ? 1 : 0, 0);
        Due.is("status", x.status(), 0);
        Due.is("on paper", x.count(2), 4);
        Due.is("on paper", x.count(0), 2);
        Due.is("on paper", x.count(5), 2);
        Due.is("on paper", x.count(13), 0);
        Due.law(x, "bars");
        x.force(0);
        Counted empty = new Counted();
        Due.law(empty, "bars");
        empty.force(0);
        Due.is("no link by law, so nothing ever waits", empty.days(77, 60), 0);
    }

    private static void drawn() {
        for (int seed = 0; seed < 40; seed++) {
            Counted x = row();
            Model m = new Model();
            m.link(0, 1, 5);
            m.link(1, 2, 3);
            Due.is("days", x.days(seed, 60), m.days(seed, 60));
            for (int r = 0; r < 7; r++) {
                for (int what = 0; what < 3; what++) {
                    Due.is("drawn", x.drawn(r, what), m.drawn(r, what));
                }
            }
        }
        Counted x = row();
        x.days(39, 60);
        int far = x.drawn(1, 0);
        x.days(-1, 5);
        x.quiet();
        x.step();
        Due.orders(x, "step");
        x.image(0);
        x.back(0);
        Due.is("the latest that were drawn", x.drawn(1, 0), far);
        Due.is("no router", x.drawn(-1, 0), -1);
        Due.is("no router", x.drawn(7, 0), -1);
        Due.is("no such what", x.drawn(1, -1), -1);
        Due.is("no such what", x.drawn(1, 3), -1);
    }
}
