import java.util.Random;

/** Runs of drawn calls, each answered by the class and by the model; now and then, and last, all that can be looked at. */
public final class ModelTest {
    // The dearest act types two texts of twenty feeds each, and looks at twelve things at most.
    private static final int DEAREST_ACT = 60;
    // What is looked at aside is looked at behind all calls of the run, so some calls are left for that.
    private static final int LEFT_ASIDE = 60;
    private final Random random;
    private final Counted x = new Counted();
    private final Model m = new Model();
    private final StringBuilder told = new StringBuilder();
    private boolean differs;

    private ModelTest(long seed) {
        random = new Random(seed);
    }

    public static void main(String[] args) {
        int runs = args.length > 0 ? Integer.parseInt(args[0]) : 1500;
        int from = args.length > 1 ? Integer.parseInt(args[1]) : 0;
        for (int run = from; run < from + runs; run++) {
            ModelTest test = new ModelTest(run);
            test.runs(run % 4);
            if (test.differs) {
                Due.fails("run " + run + ":\n" + test.told);
                break;
            }
            Due.is("run " + run, 0, 0);
        }
        Due.closes("ModelTest");
    }

    private int upTo(int n) {
        return random.nextInt(n);
    }

    private boolean chance(int percent) {
        return upTo(100) < percent;
    }

    private void same(String call, long got, long want) {
        told.append(call).append(" = ").append(got).append('\n');
        if (got != want) {
            told.append("   the model answered ").append(want).append('\n');
            differs = true;
        }
    }

    /** As same(), but told only where both differ: there are too many looks to write them all down. */
    private void look(String call, int a, int b, long got, long want) {
        if (got != want) {
            same("look " + call + " " + a + " " + b, got, want);
        }
    }

    private void runs(int style) {
        if (style == 1) {
            meshes();
        } else if (style == 3) {
            stars();
        }
        while (!differs && x.left() > DEAREST_ACT + LEFT_ASIDE) {
            if (style == 1 && chance(15)) {
                crowds();
            } else if (style == 3 && chance(15)) {
                swings();
            } else {
                acts(style);
            }
            glances();
            if (!differs && chance(4)) {
                looks();
            }
        }
        if (!differs) {
            looks();
        }
    }

    /** All links there are, so that many messages come together. */
    private void meshes() {
        StringBuilder bytes = new StringBuilder();
        for (int one = 0; one < 7; one++) {
            for (int other = 0; other < one; other++) {
                bytes.append((char) one).append((char) other).append((char) (1 + upTo(50)));
            }
        }
        types(bytes.toString());
        same("row()", x.row(), m.row());
    }

    private void crowds() {
        StringBuilder text = new StringBuilder();
        for (int i = 0; i < 1 + upTo(5); i++) {
            text.append(i == 0 ? "" : ";").append("link ").append(upTo(7)).append(" to ").append(upTo(7))
                .append(" as [done * ").append(1 + upTo(9)).append(" + time] % 50 + 1 times ").append(1 + upTo(20));
        }
        types(text.toString());
        same("orders() of " + text, x.orders(), m.orders());
    }

    /** 1 is next to the goal, the others are around it: what 1 has goes to all. */
    private void stars() {
        StringBuilder bytes = new StringBuilder().append((char) 0).append((char) 1).append((char) 5);
        for (int one = 2; one < 7; one++) {
            bytes.append((char) 1).append((char) one).append((char) (10 + upTo(5)));
            for (int other = 2; other < one; other++) {
                bytes.append((char) one).append((char) other).append((char) (chance(50) ? 0 : 50));
            }
        }
        types(bytes.toString());
        same("row()", x.row(), m.row());
        for (int i = 0; i < 6; i++) {
            types("step times 20 if waits > 0");
            same("orders()", x.orders(), m.orders());
        }
        types("ranks from % 2 * 9");
        same("law()", x.law(), m.law());
    }

    /** Nearly nothing changes, so all stay passive and many updates wait. */
    private void swings() {
        for (int i = upTo(8); i >= 0; i--) {
            String first = m.between(0, 1, 0) == 5 ? "6 - done % 2" : "5 + done % 2";
            String text = "link 0 to 1 as " + first + " times " + (1 + upTo(20));
            types(text);
            same("orders() of " + text, x.orders(), m.orders());
        }
    }

    private void types(String text) {
        int before = m.count(6);
        int[] bytes = text.chars().toArray();
        for (int i = 0; i < bytes.length; i += 20) {
            int a = Due.four(bytes, i);
            int b = Due.four(bytes, i + 4);
            int c = Due.four(bytes, i + 8);
            int d = Due.four(bytes, i + 12);
            int e = Due.four(bytes, i + 16);
            same("feed", x.feed(a, b, c, d, e), m.feed(a, b, c, d, e));
        }
        int n = before + bytes.length;
        same("end(" + n + ")", x.end(n), m.end(n));
    }

    private int number(int low, int high) {
        return chance(5) ? (chance(50) ? low - 1 - upTo(3) : high + 1 + upTo(3)) : low + upTo(high - low + 1);
    }

    private void acts(int style) {
        int what = upTo(100);
        if (what < 22) {
            int one = number(0, style == 2 ? 3 : 6);
            int other = number(0, style == 2 ? 3 : 6);
            int costs = chance(25) ? 0 : number(0, 50);
            same("link(" + one + ", " + other + ", " + costs + ")", x.link(one, other, costs), m.link(one, other, costs));
        } else if (what < 55) {
            same("step()", x.step(), m.step());
        } else if (what < 60) {
            int router = number(0, 6);
            for (int r = 0; r < 7; r++) {
                router = chance(50) && m.router(r, 3) == 1 ? r : router;
            }
            same("cut(" + router + ")", x.cut(router), m.cut(router));
        } else if (what < 65) {
            for (int i = upTo(4); i >= 0; i--) {
                same("undo()", x.undo(), m.undo());
            }
        } else if (what < 80) {
            writes();
        } else {
            minor();
        }
    }

    private void writes() {
        boolean orders = chance(65);
        String text = chance(4) ? odd(orders) : text(orders);
        if (text.length() > 400) {
            text = text.substring(0, 400);
        }
        types(text);
        if (chance(3)) {
            types(text);
        }
        if (chance(3)) {
            same("row()", x.row(), m.row());
        } else if (orders) {
            same("orders() of " + text, x.orders(), m.orders());
        } else {
            same("law() of " + text, x.law(), m.law());
            if (chance(70)) {
                int law = number(-1, 5);
                same("force(" + law + ")", x.force(law), m.force(law));
            }
        }
    }

    private void minor() {
        int what = upTo(20);
        int a = number(0, 3);
        int b = number(0, 6);
        if (what < 3) {
            same("seen(" + a + ", " + b + ")", x.seen(a, b), m.seen(a, b));
        } else if (what < 4) {
            same("forget()", x.forget(), m.forget());
        } else if (what < 5) {
            int term = number(0, 2);
            int value = term == 0 ? (chance(30) ? 990 : 0) + number(0, 9) : number(0, term == 1 ? 10 : 9);
            same("terms(" + term + ", " + value + ")", x.terms(term, value), m.terms(term, value));
        } else if (what < 8) {
            int seed = chance(50) ? number(0, 1000000) : upTo(1000001);
            int n = number(1, 60);
            same("days(" + seed + ", " + n + ")", x.days(seed, n), m.days(seed, n));
        } else if (what < 10) {
            int k = number(0, 1);
            same("image(" + k + ")", x.image(k), m.image(k));
        } else if (what < 11) {
            int k = number(0, 1);
            same("back(" + k + ")", x.back(k), m.back(k));
        } else if (what < 12) {
            int k = number(1, 20);
            int n = number(0, 99);
            same("few(" + k + ", " + n + ")", x.few(k, n), m.few(k, n));
        } else if (what < 15) {
            int law = number(-1, 5);
            same("force(" + law + ")", x.force(law), m.force(law));
        } else if (what < 17) {
            StringBuilder bytes = new StringBuilder();
            for (int i = upTo(20); i >= 0; i--) {
                bytes.append((char) (chance(5) ? upTo(256) : upTo(7)));
            }
            types(bytes.toString());
            same("row()", x.row(), m.row());
        } else if (m.count(2) < 60 || chance(3)) {
            papers();
        }
    }

    private void papers() {
        same("quiet()", x.quiet(), m.quiet());
        for (int r = -1; r < 8; r += 1 + upTo(4)) {
            same("then(" + r + ")", x.then(r), m.then(r));
        }
        int law = number(-1, 5);
        same("compare(" + law + ")", x.compare(law), m.compare(law));
    }

    /** Looks at the object itself, so that one that changes something is found by what comes behind it. */
    private void glances() {
        int r = number(0, 6);
        int other = number(0, 6);
        int what = number(0, 7);
        int i = number(0, Math.max(0, m.count(2) - 1));
        switch (upTo(12)) {
            case 0:
                same("router(" + r + ", " + what + ")", x.router(r, what), m.router(r, what));
                break;
            case 1:
                same("between(" + r + ", " + other + ", " + what + ")", x.between(r, other, what), m.between(r, other, what));
                break;
            case 2:
                same("message(" + i + ", " + what + ")", x.message(i, what), m.message(i, what));
                break;
            case 3:
                same("path(" + r + ", " + what + ")", x.path(r, what), m.path(r, what));
                break;
            case 4:
                same("least(" + r + ")", x.least(r), m.least(r));
                break;
            case 5:
                same("loops()", x.loops(), m.loops());
                same("canBe()", x.canBe(), m.canBe());
                break;
            case 6:
                same("ask(" + what + ")", x.ask(what), m.ask(what));
                break;
            case 7:
                same("drawn(" + r + ", " + what + ")", x.drawn(r, what), m.drawn(r, what));
                break;
            case 8:
                int of = number(0, 15);
                same("count(" + of + ")", x.count(of), m.count(of));
                break;
            case 9:
                same("status()", x.status(), m.status());
                break;
            default:
                break;
        }
    }

    private void looks() {
        for (int r = -1; r < 8; r++) {
            for (int i = -1; i < 9; i++) {
                look("router", r, i, x.aside().router(r, i), m.router(r, i));
                look("path", r, i, x.aside().path(r, i), m.path(r, i));
            }
            for (int i = -1; i < 4; i++) {
                look("drawn", r, i, x.aside().drawn(r, i), m.drawn(r, i));
            }
            look("least", r, 0, x.aside().least(r), m.least(r));
            for (int other = -1; other < 8; other++) {
                int i = upTo(7) - 1;
                look("between .. " + i, r, other, x.aside().between(r, other, i), m.between(r, other, i));
            }
        }
        // Of each message two things, so that there are not too many looks, and what is no message.
        for (int i = -1; i <= m.count(2); i++) {
            for (int what : new int[] {upTo(4), upTo(7) - 1}) {
                look("message", i, what, x.aside().message(i, what), m.message(i, what));
            }
        }
        for (int i = -1; i < 17; i++) {
            look("count", i, 0, x.aside().count(i), m.count(i));
        }
        for (int i = -1; i < 3; i++) {
            look("ask", i, 0, x.aside().ask(i), m.ask(i));
        }
        look("blots", 0, 0, x.aside().blots(), m.blots());
        look("fault", 0, 0, x.aside().fault(), m.fault());
        look("stopped", 0, 0, x.aside().stopped(), m.stopped());
        look("loops", 0, 0, x.aside().loops(), m.loops());
        look("canBe", 0, 0, x.aside().canBe(), m.canBe());
        look("status", 0, 0, x.aside().status(), m.status());
    }

    private String gap() {
        return chance(80) ? " " : chance(50) ? "" : "   ";
    }

    private String pick(String... of) {
        return of[upTo(of.length)];
    }

    private String text(boolean orders) {
        StringBuilder text = new StringBuilder(gap());
        int clauses = chance(5) ? 10 + upTo(5) : 1 + upTo(4);
        for (int i = 0; i < clauses; i++) {
            text.append(i == 0 ? "" : gap() + ";" + gap()).append(clause(orders, clauses > 6 ? 0 : 2));
        }
        if (chance(12)) {
            int at = upTo(text.length());
            String noise = pick("", ";", "if", "not", "(", "[", ")", "]", "times", "5", "1001", "A", "or", "to", "distance 3", "=");
            text.replace(at, Math.min(text.length(), at + upTo(4)), noise);
        }
        return text.toString();
    }

    private String clause(boolean orders, int depth) {
        String test = chance(orders ? 40 : 60) ? " if " + test(orders, depth) : "";
        if (!orders) {
            return (chance(25) ? "bars" : "ranks " + sum(false, depth)) + test;
        }
        String times = chance(25) ? " times " + number(1, 20) : "";
        int what = upTo(10);
        if (what < 6) {
            return "step" + times + (chance(60) ? " if waits > 0" : test);
        }
        if (what < 7) {
            int r = upTo(7);
            return "cut " + r + times + (chance(60) ? " if active " + r + " = 1" : test);
        }
        return "link " + router() + " to " + router() + " as "
            + (chance(60) ? "" + upTo(51) : "done + " + upTo(9)) + times + test;
    }

    private String router() {
        return chance(85) ? "" + upTo(7) : chance(50) ? "done % 7" : "[latest + 2]";
    }

    private String sum(boolean orders, int depth) {
        StringBuilder text = new StringBuilder(term(orders, depth));
        for (int i = upTo(3); i > 0; i--) {
            text.append(gap()).append(pick("+", "-")).append(gap()).append(term(orders, depth));
        }
        return text.toString();
    }

    private String term(boolean orders, int depth) {
        StringBuilder text = new StringBuilder(part(orders, depth));
        for (int i = chance(30) ? 1 + upTo(2) : 0; i > 0; i--) {
            text.append(gap()).append(pick("*", "/", "%", "*")).append(gap()).append(part(orders, depth));
        }
        return text.toString();
    }

    private String part(boolean orders, int depth) {
        if (depth > 0 && chance(15)) {
            return "[" + gap() + sum(orders, depth - 1) + "]";
        }
        if (chance(45)) {
            return "" + (chance(70) ? upTo(10) : upTo(1001));
        }
        return orders ? pick("time", "done", "latest", "waits", "distance " + upTo(7), "active " + upTo(7))
            : pick("kind", "from", "to", "far", "waits", "time", "mood", "kind", "from", "to");
    }

    private String test(boolean orders, int depth) {
        StringBuilder text = new StringBuilder(plain(orders, depth));
        for (int i = upTo(3); i > 0; i--) {
            text.append(pick(" or ", " and ")).append(plain(orders, depth));
        }
        return text.toString();
    }

    private String plain(boolean orders, int depth) {
        if (chance(15)) {
            return pick("not ", "not not ") + plain(orders, depth);
        }
        if (depth > 0 && chance(20)) {
            return "(" + test(orders, depth - 1) + gap() + ")";
        }
        return sum(orders, depth) + gap() + pick("<", ">", "=") + gap() + sum(orders, depth);
    }

    /** Texts at the limits of both languages. */
    private String odd(boolean orders) {
        String head = orders ? "step if " : "bars if ";
        switch (upTo(6)) {
            case 0:
                return head + "1" + "+1".repeat(46 + upTo(4)) + "=9;" + (orders ? "cut waits" : "ranks waits");
            case 1:
                int round = upTo(6);
                int square = 2 + upTo(6);
                return head + "(".repeat(round) + "[".repeat(square) + "1" + "]".repeat(square) + "=1" + ")".repeat(round);
            case 2:
                return head + "not ".repeat(upTo(90)) + "1=1";
            case 3:
                return (orders ? "step if 1=2;" : "ranks 1;").repeat(11 + upTo(3)) + (orders ? "step if 1=2" : "bars");
            case 4:
                return " ".repeat(upTo(401));
            default:
                return (orders ? "cut " : "ranks ") + "1000" + "*1000".repeat(upTo(4)) + pick("+1", "-1", "", "/0", "%0")
                    + (orders ? " if 1000*1000*1000+1>0 or 1=1" : " if 1=1 or 1/0=1");
        }
    }
}
