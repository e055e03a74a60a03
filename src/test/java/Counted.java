import java.util.ArrayList;
import java.util.List;
import java.util.function.ToLongFunction;

/**
 * An object that is used for at most 512 calls, as the document has it: what later calls answer is free, so no test may
 * ask for it. All tests use their objects by this, but for LanguageTest and ReadmeTest, where the calls can be counted.
 */
final class Counted {
    static final int MOST_CALLS = 512;

    private final DiffusingRoutes object = new DiffusingRoutes();
    private final List<ToLongFunction<DiffusingRoutes>> calls = new ArrayList<>();
    private final List<Long> answers = new ArrayList<>();
    private Counted aside;

    /** A new object behind the same calls: what is looked at there takes none of the calls that are left here. */
    Counted aside() {
        if (aside == null || aside.left() == 0) {
            aside = new Counted();
            for (int i = 0; i < calls.size(); i++) {
                Due.repeats(aside.asked(calls.get(i)), answers.get(i));
            }
        }
        return aside;
    }

    int left() {
        return Math.max(0, MOST_CALLS - calls.size());
    }

    private long asked(ToLongFunction<DiffusingRoutes> call) {
        if (calls.size() == MOST_CALLS) {
            Due.fails("a test uses one object for more than " + MOST_CALLS + " calls");
        }
        calls.add(call);
        aside = null;
        long answer = call.applyAsLong(object);
        answers.add(answer);
        return answer;
    }

    int router(int router, int what) {
        return (int) asked(x -> x.router(router, what));
    }

    int between(int one, int other, int what) {
        return (int) asked(x -> x.between(one, other, what));
    }

    int message(int i, int what) {
        return (int) asked(x -> x.message(i, what));
    }

    int terms(int what, int value) {
        return (int) asked(x -> x.terms(what, value));
    }

    int feed(int a, int b, int c, int d, int e) {
        return (int) asked(x -> x.feed(a, b, c, d, e));
    }

    int end(int n) {
        return (int) asked(x -> x.end(n));
    }

    int row() {
        return (int) asked(x -> x.row());
    }

    int blots() {
        return (int) asked(x -> x.blots());
    }

    int law() {
        return (int) asked(x -> x.law());
    }

    int orders() {
        return (int) asked(x -> x.orders());
    }

    int fault() {
        return (int) asked(x -> x.fault());
    }

    int stopped() {
        return (int) asked(x -> x.stopped());
    }

    int force(int law) {
        return (int) asked(x -> x.force(law));
    }

    int link(int one, int other, int costs) {
        return (int) asked(x -> x.link(one, other, costs));
    }

    int step() {
        return (int) asked(x -> x.step());
    }

    int cut(int router) {
        return (int) asked(x -> x.cut(router));
    }

    int undo() {
        return (int) asked(x -> x.undo());
    }

    int path(int router, int i) {
        return (int) asked(x -> x.path(router, i));
    }

    int loops() {
        return (int) asked(x -> x.loops());
    }

    int least(int router) {
        return (int) asked(x -> x.least(router));
    }

    int quiet() {
        return (int) asked(x -> x.quiet());
    }

    int then(int router) {
        return (int) asked(x -> x.then(router));
    }

    int seen(int fact, int n) {
        return (int) asked(x -> x.seen(fact, n));
    }

    int forget() {
        return (int) asked(x -> x.forget());
    }

    int canBe() {
        return (int) asked(x -> x.canBe());
    }

    int ask(int what) {
        return (int) asked(x -> x.ask(what));
    }

    long few(int k, int n) {
        return asked(x -> x.few(k, n));
    }

    int compare(int law) {
        return (int) asked(x -> x.compare(law));
    }

    int days(int seed, int n) {
        return (int) asked(x -> x.days(seed, n));
    }

    int drawn(int router, int what) {
        return (int) asked(x -> x.drawn(router, what));
    }

    int image(int k) {
        return (int) asked(x -> x.image(k));
    }

    int back(int k) {
        return (int) asked(x -> x.back(k));
    }

    int count(int what) {
        return (int) asked(x -> x.count(what));
    }

    int status() {
        return (int) asked(x -> x.status());
    }
}
