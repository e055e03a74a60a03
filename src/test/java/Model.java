import java.util.ArrayDeque;
import java.util.ArrayList;
import java.util.Arrays;
import java.util.Deque;
import java.util.HashMap;
import java.util.List;
import java.util.Map;
import java.util.TreeSet;

/** The document once more, written apart from the class, in the plainest way and with no eye on speed or room. */
final class Model {
    static final int FAR = 9999;

    static final class Refused extends Exception {
        private static final long serialVersionUID = 1L;
        final int by;

        Refused(int by) {
            this.by = by;
        }
    }

    static final class Broken extends Exception {
        private static final long serialVersionUID = 1L;
    }

    static final class Fault extends Exception {
        private static final long serialVersionUID = 1L;
        final int at;

        Fault(int at) {
            this.at = at;
        }
    }

    record Message(int kind, int from, int to, int distance) {
    }

    static final class Router {
        int distance = FAR;
        int bound = FAR;
        int successor = -1;
        boolean active;
        boolean worse;
        TreeSet<Integer> out = new TreeSet<>();
        TreeSet<Integer> owed = new TreeSet<>();

        Router copy() {
            Router r = new Router();
            r.distance = distance;
            r.bound = bound;
            r.successor = successor;
            r.active = active;
            r.worse = worse;
            r.out.addAll(out);
            r.owed.addAll(owed);
            return r;
        }
    }

    static final class Net {
        int[][] cost = new int[7][7];
        int[][] told = new int[7][7];
        Router[] routers = new Router[7];
        List<Message> messages = new ArrayList<>();
        int time;

        Net() {
            for (int i = 0; i < 7; i++) {
                routers[i] = new Router();
                Arrays.fill(told[i], FAR);
            }
            routers[0].distance = 0;
            routers[0].bound = 0;
        }

        Net copy() {
            Net n = new Net();
            for (int i = 0; i < 7; i++) {
                n.cost[i] = cost[i].clone();
                n.told[i] = told[i].clone();
                n.routers[i] = routers[i].copy();
            }
            n.messages.addAll(messages);
            n.time = time;
            return n;
        }

        TreeSet<Integer> neighbours(int r) {
            TreeSet<Integer> set = new TreeSet<>();
            for (int o = 0; o < 7; o++) {
                if (cost[r][o] > 0) {
                    set.add(o);
                }
            }
            return set;
        }

        int by(int r, int o) {
            return cost[r][o] == 0 ? FAR : Math.min(FAR, told[r][o] + cost[r][o]);
        }

        int leastBy(int r) {
            return neighbours(r).stream().mapToInt(o -> by(r, o)).min().orElse(FAR);
        }

        boolean feasible(int r, int o) {
            return cost[r][o] > 0 && told[r][o] < routers[r].bound;
        }

        /** The lowest feasible one by which it is the least by any, not FAR; -1 without. */
        int feasibleLeast(int r) {
            int least = leastBy(r);
            return least == FAR ? -1
                : neighbours(r).stream().filter(o -> feasible(r, o) && by(r, o) == least).findFirst().orElse(-1);
        }

        void send(int kind, int from, int to) {
            messages.add(new Message(kind, from, to, routers[from].distance));
        }

        void takeFeasible(int r, int o) {
            Router me = routers[r];
            me.successor = o;
            me.distance = by(r, o);
            me.bound = Math.min(me.bound, me.distance);
        }

        void decide(int r, int asker) {
            Router me = routers[r];
            int before = me.distance;
            int best = feasibleLeast(r);
            if (best >= 0) {
                takeFeasible(r, best);
                if (asker >= 0) {
                    send(2, r, asker);
                }
                if (me.distance != before) {
                    for (int o : neighbours(r)) {
                        if (o != asker) {
                            send(0, r, o);
                        }
                    }
                }
            } else if (before == FAR && leastBy(r) == FAR) {
                me.successor = -1;
                if (asker >= 0) {
                    send(2, r, asker);
                }
            } else {
                me.owed.clear();
                if (asker >= 0) {
                    me.owed.add(asker);
                }
                goActive(r);
            }
        }

        void goActive(int r) {
            Router me = routers[r];
            me.distance = me.successor < 0 ? FAR : by(r, me.successor);
            me.bound = me.distance;
            me.active = true;
            me.worse = false;
            me.out = neighbours(r);
            for (int o : neighbours(r)) {
                send(1, r, o);
            }
            if (me.out.isEmpty()) {
                finish(r);
            }
        }

        void finish(int r) {
            Router me = routers[r];
            int before = me.distance;
            me.active = false;
            if (!me.worse) {
                int least = leastBy(r);
                me.distance = least;
                me.bound = least;
                me.successor = least == FAR ? -1
                    : neighbours(r).stream().filter(o -> by(r, o) == least).findFirst().orElse(-1);
            } else {
                int best = feasibleLeast(r);
                if (best >= 0) {
                    takeFeasible(r, best);
                    me.worse = false;
                } else {
                    goActive(r);
                }
            }
            if (!me.active) {
                for (int o : me.owed) {
                    send(2, r, o);
                }
                if (me.distance != before) {
                    for (int o : neighbours(r)) {
                        if (!me.owed.contains(o)) {
                            send(0, r, o);
                        }
                    }
                }
                me.owed.clear();
            }
        }

        void change(int one, int other, int costs) {
            int was = cost[one][other];
            cost[one][other] = costs;
            cost[other][one] = costs;
            if (was == 0) {
                send(0, one, other);
                send(0, other, one);
                told[one][other] = FAR;
                told[other][one] = FAR;
            }
            if (costs == 0) {
                messages.removeIf(m -> m.from == one && m.to == other || m.from == other && m.to == one);
                told[one][other] = FAR;
                told[other][one] = FAR;
            }
            takeChange(one, other, costs == 0);
            takeChange(other, one, costs == 0);
        }

        void takeChange(int r, int other, boolean gone) {
            Router me = routers[r];
            if (r == 0) {
                return;
            }
            if (!me.active) {
                decide(r, -1);
                return;
            }
            if (gone) {
                me.owed.remove(other);
                me.out.remove(other);
            }
            if (me.successor == other && by(r, other) > me.distance) {
                me.worse = true;
            }
            if (me.out.isEmpty()) {
                finish(r);
            }
        }

        void deliver(Message m) {
            messages.remove(indexOf(m));
            int r = m.to;
            Router me = routers[r];
            told[r][m.from] = m.distance;
            time = time == 999 ? 999 : time + 1;
            if (r == 0) {
                if (m.kind == 1) {
                    send(2, 0, m.from);
                }
            } else if (!me.active) {
                decide(r, m.kind == 1 ? m.from : -1);
            } else if (m.kind == 0) {
                if (me.successor == m.from && by(r, m.from) > me.distance) {
                    me.worse = true;
                }
            } else if (m.kind == 1) {
                if (me.successor == m.from) {
                    me.owed.add(m.from);
                    me.worse = true;
                } else {
                    send(2, r, m.from);
                }
            } else {
                me.out.remove(m.from);
                if (me.out.isEmpty()) {
                    finish(r);
                }
            }
        }

        /** By which it is, not by what it says: two messages may say the same. */
        int indexOf(Message m) {
            for (int i = 0; i < messages.size(); i++) {
                if (messages.get(i) == m) {
                    return i;
                }
            }
            throw new IllegalStateException();
        }

        void cut(int r) {
            Router me = routers[r];
            for (int o : me.out) {
                told[r][o] = FAR;
            }
            me.out.clear();
            me.worse = false;
            finish(r);
        }
    }

    interface Sum {
        long of(Map<String, Integer> words) throws Broken;
    }

    interface Test {
        boolean of(Map<String, Integer> words) throws Broken;
    }

    static final class Clause {
        String verb;
        List<Sum> sums = new ArrayList<>();
        int times = 1;
        Test test;

        boolean isSo(Map<String, Integer> words) {
            try {
                return test == null || test.of(words);
            } catch (Broken b) {
                return false;
            }
        }
    }

    static final class Parser {
        final List<String> tokens = new ArrayList<>();
        final List<Integer> places = new ArrayList<>();
        final boolean orders;
        int at;
        int parts;
        int open;

        Parser(String text, boolean orders) {
            this.orders = orders;
            java.util.regex.Matcher m = java.util.regex.Pattern.compile("[a-z]+|[0-9]+|[^ ]", java.util.regex.Pattern.DOTALL)
                .matcher(text);
            while (m.find()) {
                tokens.add(m.group());
                places.add(m.start());
            }
            tokens.add("");
            places.add(text.length());
        }

        Fault fault() {
            return new Fault(places.get(at));
        }

        boolean see(String token) {
            return tokens.get(at).equals(token);
        }

        void must(String token) throws Fault {
            if (!see(token)) {
                throw fault();
            }
            at++;
        }

        int number(int low, int high) throws Fault {
            String t = tokens.get(at);
            if (!t.matches("[0-9]+") || new java.math.BigInteger(t).bitLength() > 20) {
                throw fault();
            }
            int n = Integer.parseInt(t.replaceFirst("^0+(?=.)", ""));
            if (n < low || n > high) {
                throw fault();
            }
            at++;
            return n;
        }

        List<Clause> text() throws Fault {
            List<Clause> clauses = new ArrayList<>();
            clauses.add(clause());
            while (!see("")) {
                must(";");
                if (clauses.size() == 12) {
                    throw fault();
                }
                clauses.add(clause());
            }
            return clauses;
        }

        Clause clause() throws Fault {
            Clause c = new Clause();
            c.verb = tokens.get(at);
            List<String> verbs = orders ? List.of("link", "step", "cut") : List.of("ranks", "bars");
            if (!verbs.contains(c.verb)) {
                throw fault();
            }
            at++;
            if (c.verb.equals("ranks") || c.verb.equals("cut")) {
                c.sums.add(sum());
            } else if (c.verb.equals("link")) {
                c.sums.add(sum());
                must("to");
                c.sums.add(sum());
                must("as");
                c.sums.add(sum());
            }
            if (orders && see("times")) {
                at++;
                c.times = number(1, 20);
            }
            if (see("if")) {
                at++;
                c.test = test();
            }
            return c;
        }

        Test test() throws Fault {
            Test left = both();
            while (see("or")) {
                at++;
                Test l = left;
                Test r = both();
                left = w -> l.of(w) || r.of(w);
            }
            return left;
        }

        Test both() throws Fault {
            Test left = plain();
            while (see("and")) {
                at++;
                Test l = left;
                Test r = plain();
                left = w -> l.of(w) && r.of(w);
            }
            return left;
        }

        void opens() throws Fault {
            if (open == 8) {
                throw fault();
            }
            open++;
            at++;
        }

        Test plain() throws Fault {
            if (see("not")) {
                at++;
                Test t = plain();
                return w -> !t.of(w);
            }
            if (see("(")) {
                opens();
                Test t = test();
                must(")");
                open--;
                return t;
            }
            Sum l = sum();
            String sign = tokens.get(at);
            if (!List.of("<", ">", "=").contains(sign)) {
                throw fault();
            }
            at++;
            Sum r = sum();
            return w -> {
                int c = Long.compare(l.of(w), r.of(w));
                return sign.equals("<") ? c < 0 : sign.equals(">") ? c > 0 : c == 0;
            };
        }

        Sum sum() throws Fault {
            Sum left = term();
            while (see("+") || see("-")) {
                boolean plus = see("+");
                at++;
                Sum l = left;
                Sum r = term();
                left = w -> {
                    long a = l.of(w);
                    long b = r.of(w);
                    return within(plus ? a + b : a - b);
                };
            }
            return left;
        }

        Sum term() throws Fault {
            Sum left = part();
            while (see("*") || see("/") || see("%")) {
                String sign = tokens.get(at);
                at++;
                Sum l = left;
                Sum r = part();
                left = w -> {
                    long a = l.of(w);
                    long b = r.of(w);
                    if (sign.equals("*")) {
                        return within(a * b);
                    }
                    if (b == 0) {
                        throw new Broken();
                    }
                    return sign.equals("/") ? a / b : a % b;
                };
            }
            return left;
        }

        static long within(long v) throws Broken {
            if (Math.abs(v) > 1000000000L) {
                throw new Broken();
            }
            return v;
        }

        Sum part() throws Fault {
            if (see("[")) {
                opens();
                Sum s = sum();
                must("]");
                open--;
                return s;
            }
            String t = tokens.get(at);
            List<String> words = orders ? List.of("time", "done", "latest", "waits", "distance", "active")
                : List.of("kind", "from", "to", "far", "waits", "time", "mood");
            boolean isWord = words.contains(t);
            if (!isWord && !t.matches("[0-9]+") || parts == 50) {
                throw fault();
            }
            parts++;
            if (!isWord) {
                int n = number(0, 1000);
                return w -> n;
            }
            at++;
            if (t.equals("distance") || t.equals("active")) {
                String word = t + number(0, 6);
                return w -> w.get(word);
            }
            return w -> w.get(t);
        }
    }

    // What images keep.
    private Net net = new Net();
    private int slips = 1;
    private int mood;
    private List<List<Clause>> laws = new ArrayList<>();
    private int force = -1;
    private List<int[]> seen = new ArrayList<>();

    private record Image(Net net, int slips, int mood, List<List<Clause>> laws, int force, List<int[]> seen) {
    }

    private record Undo(int kind, Net net) {
    }

    private final Image[] images = new Image[2];
    private Deque<Undo> undos = new ArrayDeque<>();
    private String tape = "";
    private int fault = -1;
    private int blots;
    private int stopped = -1;
    private Net drawn;
    private int status;
    private final Map<Integer, Integer> refused = new HashMap<>();

    private interface Answer {
        int get() throws Refused;
    }

    private int answer(Answer a) {
        try {
            int value = a.get();
            status = 0;
            return value;
        } catch (Refused r) {
            status = r.by;
            refused.merge(r.by, 1, Integer::sum);
            return r.by;
        }
    }

    private static boolean isRouter(int r) {
        return r >= 0 && r <= 6;
    }

    private static int bits(Iterable<Integer> set) {
        int b = 0;
        for (int i : set) {
            b |= 1 << i;
        }
        return b;
    }

    int router(int r, int what) {
        if (!isRouter(r) || what < 0 || what > 7) {
            return -1;
        }
        Router me = net.routers[r];
        return new int[] {me.distance, me.bound, me.successor, me.active ? 1 : 0, bits(me.out), bits(me.owed),
            me.active && me.worse ? 1 : 0, bits(net.neighbours(r))}[what];
    }

    int between(int one, int other, int what) {
        if (!isRouter(one) || !isRouter(other) || one == other || what < 0 || what > 4) {
            return -1;
        }
        int wait = (int) net.messages.stream().filter(m -> m.from == one && m.to == other).count();
        return new int[] {net.cost[one][other], net.told[one][other], net.by(one, other),
            net.feasible(one, other) ? 1 : 0, wait}[what];
    }

    private List<Clause> forced() {
        return force < 0 ? List.of() : laws.get(force);
    }

    private Map<String, Integer> lawWords(Net n, int kind, int from, int to, int far) {
        return Map.of("kind", kind, "from", from, "to", to, "far", far, "waits", n.messages.size(), "time", n.time,
            "mood", mood);
    }

    private int rank(Net n, List<Clause> law, Message m) {
        long rank = 0;
        Map<String, Integer> words = lawWords(n, m.kind, m.from, m.to, m.distance);
        for (Clause c : law) {
            if (c.verb.equals("ranks") && c.isSo(words)) {
                try {
                    rank = Math.max(0, Math.min(99, c.sums.get(0).of(words)));
                } catch (Broken b) {
                    // It does not hold.
                }
            }
        }
        return (int) rank;
    }

    int message(int i, int what) {
        if (i < 0 || i >= net.messages.size() || what < 0 || what > 4) {
            return -1;
        }
        Message m = net.messages.get(i);
        return what == 4 ? rank(net, forced(), m) : new int[] {m.kind, m.from, m.to, m.distance}[what];
    }

    int terms(int what, int value) {
        return answer(() -> {
            if (what < 0 || what > 2 || value < 0 || value > new int[] {999, 10, 9}[what]) {
                throw new Refused(-1);
            }
            undos.clear();
            int was = count(13 + what);
            if (what == 0) {
                net.time = value;
            } else if (what == 1) {
                slips = value;
            } else {
                mood = value;
            }
            return was;
        });
    }

    int feed(int... numbers) {
        if (tape.length() + 20 > 400) {
            return -1;
        }
        StringBuilder b = new StringBuilder(tape);
        for (int n : numbers) {
            for (byte one : java.nio.ByteBuffer.allocate(4).putInt(n).array()) {
                b.append((char) (one & 255));
            }
        }
        tape = b.toString();
        return tape.length();
    }

    int end(int n) {
        if (n < 0 || n > tape.length()) {
            return -1;
        }
        tape = tape.substring(0, n);
        return n;
    }

    int row() {
        return answer(() -> {
            if (tape.isEmpty()) {
                throw new Refused(-6);
            }
            String bytes = tape;
            tape = "";
            blots = 0;
            int changed = 0;
            for (int i = 0; i < bytes.length(); i += 3) {
                try {
                    if (i + 3 > bytes.length()) {
                        throw new Refused(-6);
                    }
                    net = linked(net, bytes.charAt(i), bytes.charAt(i + 1), bytes.charAt(i + 2));
                    changed++;
                } catch (Refused r) {
                    blots++;
                }
            }
            undos.clear();
            return changed;
        });
    }

    int blots() {
        return blots;
    }

    private List<Clause> read(boolean orders) throws Refused {
        String text = tape;
        tape = "";
        fault = -1;
        try {
            return new Parser(text, orders).text();
        } catch (Fault f) {
            fault = f.at;
            throw new Refused(-6);
        }
    }

    int law() {
        return answer(() -> {
            if (laws.size() == 6) {
                tape = "";
                throw new Refused(-5);
            }
            laws.add(read(false));
            return laws.size() - 1;
        });
    }

    int orders() {
        return answer(() -> {
            stopped = -1;
            List<Clause> text = read(true);
            Net before = net.copy();
            Deque<Undo> undosBefore = new ArrayDeque<>(undos);
            int done = 0;
            int latest = -1;
            for (int c = 0; c < text.size(); c++) {
                for (int t = 0; t < text.get(c).times; t++) {
                    Clause clause = text.get(c);
                    Map<String, Integer> words = orderWords(done, latest);
                    if (!clause.isSo(words)) {
                        continue;
                    }
                    try {
                        latest = order(clause, words, latest);
                        done++;
                    } catch (Refused | Broken e) {
                        net = before;
                        undos = undosBefore;
                        stopped = c;
                        throw new Refused(-3);
                    }
                }
            }
            return done;
        });
    }

    private int order(Clause clause, Map<String, Integer> words, int latest) throws Refused, Broken {
        int[] args = new int[3];
        for (int i = 0; i < clause.sums.size(); i++) {
            args[i] = (int) clause.sums.get(i).of(words);
        }
        switch (clause.verb) {
            case "link":
                keep(0, linked(net, args[0], args[1], args[2]));
                return latest;
            case "cut":
                keep(2, cutted(net, args[0]));
                return latest;
            default:
                int kind = first(net, forced()).kind;
                keep(1, stepped(net, forced()));
                return kind;
        }
    }

    private Map<String, Integer> orderWords(int done, int latest) {
        Map<String, Integer> words = new HashMap<>();
        words.put("time", net.time);
        words.put("done", done);
        words.put("latest", latest);
        words.put("waits", net.messages.size());
        for (int r = 0; r < 7; r++) {
            words.put("distance" + r, net.routers[r].distance);
            words.put("active" + r, net.routers[r].active ? 1 : 0);
        }
        return words;
    }

    int fault() {
        return fault;
    }

    int stopped() {
        return stopped;
    }

    int force(int law) {
        return answer(() -> {
            if (law < -1 || law >= laws.size()) {
                throw new Refused(-2);
            }
            int was = force;
            force = law;
            return was;
        });
    }

    private Net linked(Net n, int one, int other, int costs) throws Refused {
        if (!isRouter(one) || !isRouter(other) || one == other || costs < 0 || costs > 50) {
            throw new Refused(-1);
        }
        if (n.cost[one][other] == costs) {
            throw new Refused(-3);
        }
        Map<String, Integer> words = lawWords(n, -1, one, other, costs);
        for (Clause c : forced()) {
            if (c.verb.equals("bars") && c.isSo(words)) {
                throw new Refused(-3);
            }
        }
        Net next = n.copy();
        next.change(one, other, costs);
        return roomy(next);
    }

    private static Net roomy(Net n) throws Refused {
        if (n.messages.size() > 400) {
            throw new Refused(-5);
        }
        return n;
    }

    private Message first(Net n, List<Clause> law) throws Refused {
        Message best = null;
        int least = 0;
        boolean[][] met = new boolean[7][7];
        for (Message m : n.messages) {
            boolean firstOfWay = !met[m.from][m.to];
            met[m.from][m.to] = true;
            int rank = firstOfWay ? rank(n, law, m) : 0;
            if (firstOfWay && (best == null || rank < least)) {
                best = m;
                least = rank;
            }
        }
        if (best == null) {
            throw new Refused(-3);
        }
        return best;
    }

    private Net stepped(Net n, List<Clause> law) throws Refused {
        Net next = n.copy();
        next.deliver(first(next, law));
        return roomy(next);
    }

    private Net cutted(Net n, int r) throws Refused {
        if (!isRouter(r)) {
            throw new Refused(-1);
        }
        if (!n.routers[r].active) {
            throw new Refused(-3);
        }
        Net next = n.copy();
        next.cut(r);
        return roomy(next);
    }

    private void keep(int kind, Net next) {
        undos.push(new Undo(kind, net));
        if (undos.size() > 16) {
            undos.removeLast();
        }
        net = next;
    }

    int link(int one, int other, int costs) {
        return answer(() -> {
            Net next = linked(net, one, other, costs);
            int was = net.cost[one][other];
            keep(0, next);
            return was;
        });
    }

    int step() {
        return answer(() -> {
            int kind = first(net, forced()).kind;
            keep(1, stepped(net, forced()));
            return kind;
        });
    }

    int cut(int r) {
        return answer(() -> {
            Net next = cutted(net, r);
            int out = net.routers[r].out.size();
            keep(2, next);
            return out;
        });
    }

    int undo() {
        return answer(() -> {
            if (undos.isEmpty()) {
                throw new Refused(-3);
            }
            Undo u = undos.pop();
            net = u.net;
            return u.kind;
        });
    }

    int path(int r, int i) {
        if (!isRouter(r) || i < 0 || i > 7) {
            return -1;
        }
        return i == 0 ? r : path(net.routers[r].successor, i - 1);
    }

    int loops() {
        int b = 0;
        for (int r = 0; r < 7; r++) {
            for (int i = 1; i <= 7; i++) {
                if (path(r, i) == r) {
                    b |= 1 << r;
                }
            }
        }
        return b;
    }

    int least(int r) {
        return isRouter(r) ? least(r, 0) : -1;
    }

    /** Over all ways that meet none of those that were met. */
    private int least(int r, int met) {
        if (r == 0) {
            return 0;
        }
        int best = FAR;
        for (int o = 0; o < 7; o++) {
            if (net.cost[r][o] > 0 && (met >> o & 1) == 0) {
                best = Math.min(best, least(o, met | 1 << r) + net.cost[r][o]);
            }
        }
        return best;
    }

    /** The steps and the net behind them; nothing, if it does not come to rest. */
    private Map.Entry<Integer, Net> rest(List<Clause> law) {
        Net n = net;
        for (int steps = 0; steps <= 999; steps++) {
            if (n.messages.isEmpty()) {
                return Map.entry(steps, n);
            }
            try {
                n = stepped(n, law);
            } catch (Refused r) {
                return null;
            }
        }
        return null;
    }

    int quiet() {
        Map.Entry<Integer, Net> rest = rest(forced());
        return rest == null ? -1 : rest.getKey();
    }

    int then(int r) {
        Map.Entry<Integer, Net> rest = rest(forced());
        return rest == null || !isRouter(r) ? -1 : rest.getValue().routers[r].distance;
    }

    int seen(int fact, int n) {
        return answer(() -> {
            if (fact < 0 || fact > 3 || n < 0 || n > 6) {
                throw new Refused(-1);
            }
            if (seen.size() == 6) {
                throw new Refused(-5);
            }
            seen.add(new int[] {fact, n});
            return seen.size();
        });
    }

    int forget() {
        int was = seen.size();
        seen = new ArrayList<>();
        return was;
    }

    private int fact(int r, int fact) {
        Router me = net.routers[r];
        return new int[] {net.neighbours(r).size(), me.active ? 1 : 0, me.out.size(), me.successor}[fact];
    }

    private List<Integer> candidates() {
        List<Integer> all = new ArrayList<>();
        for (int r = 0; r < 7; r++) {
            int router = r;
            if (seen.stream().allMatch(s -> fact(router, s[0]) == s[1])) {
                all.add(r);
            }
        }
        return all;
    }

    int canBe() {
        return bits(candidates());
    }

    int ask(int what) {
        List<Integer> all = candidates();
        if (all.isEmpty() || what < 0 || what > 1) {
            return -1;
        }
        int best = 0;
        int left = 99;
        for (int fact = 0; fact < 4; fact++) {
            Map<Integer, Integer> groups = new HashMap<>();
            for (int r : all) {
                groups.merge(fact(r, fact), 1, Integer::sum);
            }
            int most = groups.values().stream().max(Integer::compare).orElse(0);
            if (most < left) {
                left = most;
                best = fact;
            }
        }
        return what == 0 ? best : left;
    }

    long few(int k, int n) {
        if (k < 1 || k > 20 || n < 0 || n > 99) {
            return -1;
        }
        long[] parts = new long[101];
        parts[0] = 1000000000000L;
        for (int m = 0; m < n; m++) {
            long[] next = new long[101];
            for (int j = 0; j < 100; j++) {
                next[j] += parts[j] * (10 - slips) / 10;
                next[j + 1] += parts[j] * slips / 10;
            }
            parts = next;
        }
        return Arrays.stream(parts, 0, k).sum();
    }

    int compare(int law) {
        if (law < -1 || law >= laws.size()) {
            return -1;
        }
        Map.Entry<Integer, Net> rest = rest(law < 0 ? List.of() : laws.get(law));
        return rest == null ? -1 : rest.getKey();
    }

    int days(int seed, int n) {
        return answer(() -> {
            if (seed < 0 || seed > 1000000 || n < 1 || n > 60) {
                throw new Refused(-1);
            }
            drawn = net.copy();
            long s = seed;
            for (int d = 0; d < n; d++) {
                int[] draws = new int[4];
                int[] of = {7, 7, 12, 8};
                for (int i = 0; i < 4; i++) {
                    s = (s * 1103 + 12345) % 1000003;
                    draws[i] = (int) (s % of[i]);
                }
                try {
                    drawn = draws[3] <= 1 ? linked(drawn, draws[0], draws[1], draws[2])
                        : draws[3] <= 6 ? stepped(drawn, forced()) : cutted(drawn, draws[0]);
                } catch (Refused r) {
                    // It can't be: nothing.
                }
            }
            return drawn.messages.size();
        });
    }

    int drawn(int r, int what) {
        if (drawn == null || !isRouter(r) || what < 0 || what > 2) {
            return -1;
        }
        Router me = drawn.routers[r];
        return what == 0 ? me.distance : what == 1 ? (me.active ? 1 : 0) : me.successor;
    }

    int image(int k) {
        return answer(() -> {
            if (k < 0 || k > 1) {
                throw new Refused(-1);
            }
            images[k] = new Image(net.copy(), slips, mood, new ArrayList<>(laws), force, new ArrayList<>(seen));
            return 0;
        });
    }

    int back(int k) {
        return answer(() -> {
            if (k < 0 || k > 1) {
                throw new Refused(-1);
            }
            Image i = images[k];
            if (i == null) {
                throw new Refused(-2);
            }
            net = i.net.copy();
            slips = i.slips;
            mood = i.mood;
            laws = new ArrayList<>(i.laws);
            force = i.force;
            seen = new ArrayList<>(i.seen);
            undos.clear();
            return 0;
        });
    }

    int count(int what) {
        switch (what) {
            case 0:
                int ends = 0;
                for (int r = 0; r < 7; r++) {
                    ends += net.neighbours(r).size();
                }
                return ends / 2;
            case 1:
                return (int) Arrays.stream(net.routers).filter(r -> r.active).count();
            case 2:
                return net.messages.size();
            case 3:
                return seen.size();
            case 4:
                return laws.size();
            case 5:
                return undos.size();
            case 6:
                return tape.length();
            case 12:
                return force;
            case 13:
                return net.time;
            case 14:
                return slips;
            case 15:
                return mood;
            default:
                return what < 7 || what > 11 ? -1 : refused.getOrDefault(new int[] {-1, -2, -3, -5, -6}[what - 7], 0);
        }
    }

    int status() {
        return status;
    }
}
