/** Promises 11 and 13: orders, run wholly or not at all, and where they stopped. */
public final class OrdersTest {
    private OrdersTest() {
    }

    public static void main(String[] args) {
        runs();
        words();
        cannotBe();
        undoStays();
        stopped();
        Due.closes("OrdersTest");
    }

    private static void runs() {
        Counted x = new Counted();
        Due.is("two links", Due.orders(x, "link 0 to 1 as 5;link 1 to 2 as 3"), 2);
        Due.is("links", x.count(0), 2);
        Due.is("by the one told first", x.message(0, 1), 0);
        Due.is("steps while some wait", Due.orders(x, "step times 20 if waits > 0"), 7);
        Due.is("far", x.router(2, 0), 8);
        Due.is("time", x.count(13), 7);
        Due.is("nothing was run", Due.orders(x, "step if waits > 0"), 0);
        Due.is("which is no refusal", x.status(), 0);
        Due.is("each can be undone", x.count(5), 9);
        Due.is("a link as none", Due.orders(x, "link 0 to 1 as 0"), 1);
        Due.is("1 is active", x.router(1, 3), 1);
        Due.is("cut", Due.orders(x, "cut 1"), 1);
        Due.is("it is not any more", x.router(1, 3), 0);
        Due.is("undone", x.undo(), 2);
        Due.is("undone", x.undo(), 0);
        Due.is("undone", x.undo(), 1);
    }

    private static void words() {
        Counted x = new Counted();
        Due.is("done counts what was run", Due.orders(x, "link 0 to done + 1 as done * 2 + 1 times 6"), 6);
        for (int r = 1; r < 7; r++) {
            Due.is("it costs", x.between(0, r, 0), 2 * r - 1);
        }
        Due.is("none was the latest", Due.orders(x, "step if latest = 0 - 1;step if latest = 0;step if latest = 0 - 1"), 2);
        Due.is("time", Due.orders(x, "step if time = 2;step if time = 2;step if time > 2"), 2);
        Due.is("the goal", Due.orders(x, "step if distance 0 = 0 and active 0 = 0"), 1);
        Due.is("others", Due.orders(x, "step if distance 1 = 1 and distance 6 > 9 * 1000"), 1);
        x.terms(0, 0);
        Due.orders(x, "step times 20 if waits > 0");
        Due.is("all is quiet", x.count(2), 0);
        x.link(1, 2, 3);
        x.link(0, 1, 0);
        Due.is("active", x.router(1, 3), 1);
        Due.is("by active", Due.orders(x, "cut 1 if active 1 = 1;cut 1 if active 1 = 1"), 1);
        Due.is("a broken test is not so", Due.orders(x, "step times 20 if 1 / 0 = 1"), 0);
        Due.is("the latest is asked each time", Due.orders(x, "step times 9 if not latest = 1"), 3);
        Due.is("the third was a query", x.count(13), 15);
    }

    private static void cannotBe() {
        String[] bad = {"step", "cut 1", "cut 7", "cut 0 - 1", "link 0 to 0 as 1", "link 0 to 1 as 51", "link 0 to 1 as 0 - 1",
            "link 7 to 1 as 1", "link 0 to 1 as 1 / 0", "link 1 % 0 to 1 as 1", "link 0 to 1 as 0", "cut 1000 * 1000 * 1000 + 1",
            "link 1000 * 1000 * 1000 to 1 as 1"};
        for (String text : bad) {
            Counted x = new Counted();
            Due.is("it can't be: " + text, Due.orders(x, text), -3);
            Due.is("stopped at " + text, x.stopped(), 0);
            Due.is("no fault in " + text, x.fault(), -1);
            Due.is("the tape is empty behind " + text, x.count(6), 0);
            Due.is("behind others: " + text, Due.orders(x, "link 2 to 3 as 4;step times 2;" + text), -3);
            Due.is("stopped at the third", x.stopped(), 2);
            Due.is("no link", x.count(0), 0);
            Due.is("no message", x.count(2), 0);
            Due.is("no time", x.count(13), 0);
            Due.is("nothing can be undone", x.count(5), 0);
            Due.is("refused by -3", x.count(9), 2);
            Due.is("not if it is not asked for", Due.orders(x, text + " if 1 = 2"), 0);
        }
        Counted x = new Counted();
        Due.law(x, "bars if far > 40");
        x.force(0);
        Due.is("barred", Due.orders(x, "link 1 to 2 as 40;link 1 to 2 as 41"), -3);
        Due.is("stopped at the second", x.stopped(), 1);
        Due.is("stopped within its times", Due.orders(x, "link 1 to 2 as 39 + done times 3"), -3);
        Due.is("stopped at the first", x.stopped(), 0);
        Due.is("no link", x.count(0), 0);
    }

    private static void undoStays() {
        Counted x = new Counted();
        x.link(1, 2, 3);
        x.link(3, 4, 3);
        x.step();
        Due.is("it can't be", Due.orders(x, "link 1 to 2 as done + 4 times 20;cut 0"), -3);
        Due.is("what can be undone is as it was", x.count(5), 3);
        Due.is("undone", x.undo(), 1);
        Due.is("undone", x.undo(), 0);
        Due.is("links", x.count(0), 1);
        Due.is("costs", x.between(1, 2, 0), 3);
        Due.is("more than are kept", Due.orders(x, "link 1 to 2 as done + 4 times 20"), 20);
        Due.is("sixteen are kept", x.count(5), 16);
        for (int i = 0; i < 16; i++) {
            Due.is("undone", x.undo(), 0);
        }
        Due.is("costs", x.between(1, 2, 0), 7);
        Due.is("no more", x.undo(), -3);
    }

    private static void stopped() {
        Counted x = new Counted();
        Due.orders(x, "link 1 to 2 as 3;cut 5");
        Due.is("stopped", x.stopped(), 1);
        x.step();
        Due.law(x, "ranks");
        Due.is("of the latest orders", x.stopped(), 1);
        Due.orders(x, "cut");
        Due.is("a fault is no stop", x.stopped(), -1);
        Due.orders(x, "step");
        Due.is("stopped", x.stopped(), 0);
        Due.orders(x, "link 1 to 2 as 3");
        Due.is("none", x.stopped(), -1);
        Due.orders(x, "cut 1");
        x.image(0);
        x.back(0);
        Due.is("images do not keep it", x.stopped(), 0);
    }
}
