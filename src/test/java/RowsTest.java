/** Promises 5, 8, 9: terms, rows and their blots. */
public final class RowsTest {
    private RowsTest() {
    }

    public static void main(String[] args) {
        terms();
        row();
        blots();
        Due.closes("RowsTest");
    }

    private static void terms() {
        Counted x = new Counted();
        int[] first = {0, 1, 0};
        int[] most = {999, 10, 9};
        for (int what = 0; what < 3; what++) {
            Due.is("what it was at first", x.terms(what, most[what]), first[what]);
            Due.is("what it was", x.terms(what, 0), most[what]);
            Due.is("status", x.status(), 0);
            Due.is("too much", x.terms(what, most[what] + 1), -1);
            Due.is("below 0", x.terms(what, -1), -1);
            Due.is("status", x.status(), -1);
            Due.is("it stays", x.count(13 + what), 0);
        }
        Due.is("no such term", x.terms(-1, 0), -1);
        Due.is("no such term", x.terms(3, 0), -1);
        Due.is("refused by -1", x.count(7), 8);
        x.terms(0, 5);
        x.link(1, 2, 3);
        x.step();
        Due.is("a step is time", x.terms(0, 7), 6);
    }

    private static void row() {
        Counted x = new Counted();
        Due.is("the tape is empty", x.row(), -6);
        Due.is("status", x.status(), -6);
        Due.type(x, 0, 1, 5, 1, 2, 3, 0, 1, 0, 2, 6, 50);
        Due.is("four changed", x.row(), 4);
        Due.is("no blots", x.blots(), 0);
        Due.is("the tape is empty then", x.count(6), 0);
        Due.is("links", x.count(0), 2);
        Due.is("it costs", x.between(2, 6, 0), 50);
        Due.is("messages of those that are lost again are lost", x.count(2), 4);
        Due.is("the one told first sends first", x.message(2, 1), 2);
        Due.is("nothing can be undone", x.count(5), 0);
    }

    private static void blots() {
        Counted x = new Counted();
        Due.type(x, 1, 1, 5, 7, 1, 5, 255, 1, 5, 1, 2, 51, 1, 2, 0, 1, 2, 5, 1, 2, 5, 3);
        Due.is("one changed", x.row(), 1);
        Due.is("one alone, no router, too dear, so already, the end", x.blots(), 7);
        Due.is("it is not refused", x.status(), 0);
        Due.is("nor are its links counted", x.count(7) + x.count(9), 0);
        Due.is("the tape is empty", x.row(), -6);
        Due.is("they stay when a row is refused", x.blots(), 7);
        Due.law(x, "bars if far = 8");
        x.force(0);
        Due.type(x, 1, 2, 8, 1, 2, 9, 0, 0);
        Due.is("one is barred, one changed", x.row(), 1);
        Due.is("one is barred, one has no end", x.blots(), 2);
        x.image(0);
        Due.type(x, 1, 2, 9);
        Due.is("none changed", x.row(), 0);
        Due.is("it is so", x.blots(), 1);
        x.back(0);
        Due.is("images do not keep them", x.blots(), 1);
        Due.type(x, 1, 2);
        Due.is("no whole three", x.row(), 0);
        Due.is("one blot", x.blots(), 1);
    }
}
