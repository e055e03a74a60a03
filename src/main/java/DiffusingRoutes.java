import java.util.Arrays;

/** Routes to a goal by diffusing computations, as the document tells them. */
public final class DiffusingRoutes {
    public static final int NONE = -1;
    public static final int FAR = 9999;

    private static final int ROUTERS = 7;
    private static final int GOAL = 0;
    private static final int MOST_COSTS = 50;
    private static final int MOST_MESSAGES = 400;
    // One act sends 14 messages at most (two updates, then six of each end), so this is room to spare.
    private static final int SENT_AT_ONCE = 20;
    private static final int MOST_TIME = 999;
    private static final int MOST_STEPS = 999;
    private static final int MOST_LAWS = 6;
    private static final int MOST_SEEN = 6;
    private static final int MOST_UNDONE = 16;
    private static final int MOST_DAYS = 60;
    private static final int MOST_SEED = 1000000;
    private static final int MOST_SLIPPED = 20;
    private static final int MOST_SENT = 99;
    private static final int LONGEST_PATH = 7;
    private static final int FACTS = 4;
    private static final int IMAGES = 2;
    private static final long WHOLE_CHANCE = 1000000000000L;
    private static final int[] MOST_OF_TERM = {MOST_TIME, 10, 9};

    private static final int UPDATE = 0;
    private static final int QUERY = 1;
    private static final int REPLY = 2;

    private static final int LINK = 0;
    private static final int STEP = 1;
    private static final int CUT = 2;
    private static final int RANKS = 3;
    private static final int BARS = 4;

    private static final int NO_NUMBER = -1;
    private static final int NO_SUCH = -2;
    private static final int CANNOT_BE = -3;
    private static final int NO_ROOM = -5;
    private static final int NO_TEXT = -6;

    private final World now = new World();
    private final World[] images = new World[IMAGES];
    private int imagesKept;
    private final History history = new History();
    private final Reader reader = new Reader();
    private final Judge judge = new Judge();
    private final Net paper = new Net();
    private final Net latestDays = new Net();
    private boolean daysWere;
    private final int[] ways = new int[ROUTERS];
    private final long[] chances = new long[MOST_SLIPPED];
    private final int[] sums = new int[Program.SUMS];
    private final int[] refusals = new int[5];
    private int latestRefusal;
    private int blotCount;
    private int stoppedAt = NONE;

    public DiffusingRoutes() {
        for (int i = 0; i < IMAGES; i++) {
            images[i] = new World();
        }
    }

    public int router(int router, int what) {
        if (!isRouter(router)) {
            return NONE;
        }
        Net net = now.net;
        switch (what) {
            case 0:
                return net.distance[router];
            case 1:
                return net.bound[router];
            case 2:
                return net.successor[router];
            case 3:
                return bit(net.active, router);
            case 4:
                return net.out[router];
            case 5:
                return net.owed[router];
            case 6:
                return bit(net.worse, router);
            case 7:
                return net.near[router];
            default:
                return NONE;
        }
    }

    public int between(int one, int other, int what) {
        if (!arePair(one, other)) {
            return NONE;
        }
        Net net = now.net;
        switch (what) {
            case 0:
                return net.cost[one * ROUTERS + other];
            case 1:
                return net.told[one * ROUTERS + other];
            case 2:
                return net.by(one, other);
            case 3:
                return bit(net.feasible(one), other);
            case 4:
                return net.waitOn(one, other);
            default:
                return NONE;
        }
    }

    public int message(int i, int what) {
        if (i < 0 || i >= now.net.waits) {
            return NONE;
        }
        int message = now.net.queue[i];
        switch (what) {
            case 0:
                return Net.kindOf(message);
            case 1:
                return Net.fromOf(message);
            case 2:
                return Net.toOf(message);
            case 3:
                return Net.distanceOf(message);
            case 4:
                judge.looksAt(now.net, now.mood);
                return judge.rank(now.lawAt(now.force), message);
            default:
                return NONE;
        }
    }

    public int terms(int what, int value) {
        if (what < 0 || what >= MOST_OF_TERM.length || value < 0 || value > MOST_OF_TERM[what]) {
            return refused(NO_NUMBER);
        }
        int was = now.term(what);
        now.setTerm(what, value);
        history.clears();
        return went(was);
    }

    public int feed(int a, int b, int c, int d, int e) {
        Tape tape = reader.tape;
        if (!tape.hasRoom()) {
            return NONE;
        }
        tape.takes(a);
        tape.takes(b);
        tape.takes(c);
        tape.takes(d);
        tape.takes(e);
        return tape.length;
    }

    public int end(int n) {
        if (n < 0 || n > reader.tape.length) {
            return NONE;
        }
        reader.tape.length = n;
        return n;
    }

    public int row() {
        Tape tape = reader.tape;
        int length = tape.length;
        if (length == 0) {
            return refused(NO_TEXT);
        }
        int changed = 0;
        int blotted = 0;
        for (int i = 0; i < length; i += 3) {
            int answer = NONE;
            if (i + 2 < length) {
                answer = act(now.net, false, LINK, tape.bytes[i], tape.bytes[i + 1], tape.bytes[i + 2]);
            }
            if (answer < 0) {
                blotted++;
            } else {
                changed++;
            }
        }
        tape.length = 0;
        blotCount = blotted;
        history.clears();
        return went(changed);
    }

    public int blots() {
        return blotCount;
    }

    public int law() {
        if (now.lawCount >= MOST_LAWS) {
            reader.tape.length = 0;
            return refused(NO_ROOM);
        }
        Program law = reader.reads(false);
        reader.tape.length = 0;
        if (law == null) {
            return refused(NO_TEXT);
        }
        now.laws[now.lawCount] = law;
        now.lawCount++;
        return went(now.lawCount - 1);
    }

    public int orders() {
        stoppedAt = NONE;
        Program program = reader.reads(true);
        reader.tape.length = 0;
        if (program == null) {
            return refused(NO_TEXT);
        }
        // First on paper: so nothing, not even what can be undone, has to be put back if one can't be.
        paper.copies(now.net);
        if (run(program, paper, false) < 0) {
            return refused(CANNOT_BE);
        }
        return went(run(program, now.net, true));
    }

    public int fault() {
        return reader.fault;
    }

    public int stopped() {
        return stoppedAt;
    }

    public int force(int law) {
        if (!isLawOrNone(law)) {
            return refused(NO_SUCH);
        }
        int was = now.force;
        now.force = law;
        return went(was);
    }

    public int link(int one, int other, int costs) {
        return answered(act(now.net, true, LINK, one, other, costs));
    }

    public int step() {
        return answered(act(now.net, true, STEP, 0, 0, 0));
    }

    public int cut(int router) {
        return answered(act(now.net, true, CUT, router, 0, 0));
    }

    public int undo() {
        if (history.kept == 0) {
            return refused(CANNOT_BE);
        }
        return went(history.takesBack(now.net));
    }

    public int path(int router, int i) {
        if (!isRouter(router) || i < 0 || i > LONGEST_PATH) {
            return NONE;
        }
        int at = router;
        for (int k = 0; k < i && at != NONE; k++) {
            at = now.net.successor[at];
        }
        return at;
    }

    public int loops() {
        int bits = 0;
        for (int router = 0; router < ROUTERS; router++) {
            if (comesToItself(router)) {
                bits |= 1 << router;
            }
        }
        return bits;
    }

    public int least(int router) {
        if (!isRouter(router)) {
            return NONE;
        }
        Arrays.fill(ways, FAR);
        ways[GOAL] = 0;
        // A least way has six links at most, and each round finds one link more of it.
        for (int round = 1; round < ROUTERS; round++) {
            shortenWays();
        }
        return ways[router];
    }

    public int quiet() {
        return stepsTillQuiet(now.lawAt(now.force));
    }

    public int then(int router) {
        if (!isRouter(router) || stepsTillQuiet(now.lawAt(now.force)) == NONE) {
            return NONE;
        }
        return paper.distance[router];
    }

    public int seen(int fact, int n) {
        if (fact < 0 || fact >= FACTS || n < 0 || n >= ROUTERS) {
            return refused(NO_NUMBER);
        }
        if (now.seenCount >= MOST_SEEN) {
            return refused(NO_ROOM);
        }
        now.seenFact[now.seenCount] = fact;
        now.seenNumber[now.seenCount] = n;
        now.seenCount++;
        return went(now.seenCount);
    }

    public int forget() {
        int was = now.seenCount;
        now.seenCount = 0;
        return was;
    }

    public int canBe() {
        int bits = 0;
        for (int router = 0; router < ROUTERS; router++) {
            if (isAsSeen(router)) {
                bits |= 1 << router;
            }
        }
        return bits;
    }

    public int ask(int what) {
        int among = canBe();
        if (among == 0 || what < 0 || what > 1) {
            return NONE;
        }
        int best = NONE;
        int left = ROUTERS + 1;
        for (int fact = 0; fact < FACTS; fact++) {
            int alike = mostAlike(among, fact);
            if (alike < left) {
                left = alike;
                best = fact;
            }
        }
        return what == 0 ? best : left;
    }

    public long few(int k, int n) {
        if (k < 1 || k > MOST_SLIPPED || n < 0 || n > MOST_SENT) {
            return NONE;
        }
        Arrays.fill(chances, 0L);
        chances[0] = WHOLE_CHANCE;
        for (int sent = 0; sent < n; sent++) {
            // From above downwards, so that each part is still that of the message before.
            for (int slipped = k - 1; slipped >= 0; slipped--) {
                long stays = chances[slipped] * (10 - now.slips) / 10;
                long comes = slipped == 0 ? 0 : chances[slipped - 1] * now.slips / 10;
                chances[slipped] = stays + comes;
            }
        }
        long together = 0;
        for (int slipped = 0; slipped < k; slipped++) {
            together += chances[slipped];
        }
        return together;
    }

    public int compare(int law) {
        if (!isLawOrNone(law)) {
            return NONE;
        }
        return stepsTillQuiet(now.lawAt(law));
    }

    public int days(int seed, int n) {
        if (seed < 0 || seed > MOST_SEED || n < 1 || n > MOST_DAYS) {
            return refused(NO_NUMBER);
        }
        latestDays.copies(now.net);
        daysWere = true;
        int s = seed;
        for (int day = 0; day < n; day++) {
            int first = drawFrom(s);
            int second = drawFrom(first);
            int third = drawFrom(second);
            s = drawFrom(third);
            int what = s % 8;
            if (what < 2) {
                act(latestDays, false, LINK, first % 7, second % 7, third % 12);
            } else if (what < 7) {
                act(latestDays, false, STEP, 0, 0, 0);
            } else {
                act(latestDays, false, CUT, first % 7, 0, 0);
            }
        }
        return went(latestDays.waits);
    }

    public int drawn(int router, int what) {
        if (!daysWere || !isRouter(router)) {
            return NONE;
        }
        switch (what) {
            case 0:
                return latestDays.distance[router];
            case 1:
                return bit(latestDays.active, router);
            case 2:
                return latestDays.successor[router];
            default:
                return NONE;
        }
    }

    public int image(int k) {
        if (k < 0 || k >= IMAGES) {
            return refused(NO_NUMBER);
        }
        images[k].copies(now);
        imagesKept |= 1 << k;
        return went(0);
    }

    public int back(int k) {
        if (k < 0 || k >= IMAGES) {
            return refused(NO_NUMBER);
        }
        if (bit(imagesKept, k) == 0) {
            return refused(NO_SUCH);
        }
        now.copies(images[k]);
        history.clears();
        return went(0);
    }

    public int count(int what) {
        if (what >= 7 && what <= 11) {
            return refusals[what - 7];
        }
        if (what >= 13 && what <= 15) {
            return now.term(what - 13);
        }
        switch (what) {
            case 0:
                return now.net.linkCount();
            case 1:
                return Integer.bitCount(now.net.active);
            case 2:
                return now.net.waits;
            case 3:
                return now.seenCount;
            case 4:
                return now.lawCount;
            case 5:
                return history.kept;
            case 6:
                return reader.tape.length;
            case 12:
                return now.force;
            default:
                return NONE;
        }
    }

    public int status() {
        return latestRefusal;
    }

    private static boolean isRouter(int router) {
        return router >= 0 && router < ROUTERS;
    }

    private static boolean arePair(int one, int other) {
        return isRouter(one) && isRouter(other) && one != other;
    }

    private static int bit(int bits, int place) {
        return bits >> place & 1;
    }

    private boolean isLawOrNone(int law) {
        return law >= NONE && law < now.lawCount;
    }

    private int went(int answer) {
        latestRefusal = 0;
        return answer;
    }

    private int refused(int by) {
        latestRefusal = by;
        // There is no refusal by -4, so those behind it stand one place nearer.
        int place = by > -4 ? -by - 1 : -by - 2;
        if (place >= 0 && place < refusals.length) {
            refusals[place]++;
        }
        return by;
    }

    private int answered(int answer) {
        return answer < 0 ? refused(answer) : went(answer);
    }

    /** What it answers, or what it is refused by: the net is as it was then. */
    private int act(Net net, boolean keeps, int kind, int one, int other, int costs) {
        int refusal = refusalOf(net, kind, one, other, costs);
        if (refusal != 0) {
            return refusal;
        }
        if (keeps || net.waits > MOST_MESSAGES - SENT_AT_ONCE) {
            history.prepares(net);
        }
        int answer;
        if (kind == LINK) {
            answer = net.relinks(one, other, costs);
        } else if (kind == STEP) {
            answer = net.delivers(judge.first(net, now.lawAt(now.force), now.mood));
        } else {
            answer = net.cuts(one);
        }
        if (net.waits > MOST_MESSAGES) {
            history.putsBack(net);
            return NO_ROOM;
        }
        if (keeps) {
            history.keeps(kind);
        }
        return answer;
    }

    private int refusalOf(Net net, int kind, int one, int other, int costs) {
        if (kind == STEP) {
            return net.waits == 0 ? CANNOT_BE : 0;
        }
        if (kind == CUT) {
            if (!isRouter(one)) {
                return NO_NUMBER;
            }
            return bit(net.active, one) == 0 ? CANNOT_BE : 0;
        }
        if (!arePair(one, other) || costs < 0 || costs > MOST_COSTS) {
            return NO_NUMBER;
        }
        if (net.cost[one * ROUTERS + other] == costs) {
            return CANNOT_BE;
        }
        judge.looksAt(net, now.mood);
        return judge.bars(now.lawAt(now.force), one, other, costs) ? CANNOT_BE : 0;
    }

    /** How many were run; NONE, if one can't be: the net is as that left it then. */
    private int run(Program program, Net net, boolean keeps) {
        int done = 0;
        int latest = NONE;
        for (int clause = 0; clause < program.clauseCount; clause++) {
            int kind = program.kind(clause);
            int times = program.times(clause);
            for (int time = 0; time < times; time++) {
                judge.looksAtRun(net, done, latest);
                if (judge.value(program, program.test(clause)) != 1) {
                    continue;
                }
                int answer = CANNOT_BE;
                if (judge.tellsSums(program, clause, sums)) {
                    answer = act(net, keeps, kind, sums[0], sums[1], sums[2]);
                }
                if (answer < 0) {
                    stoppedAt = clause;
                    return NONE;
                }
                done++;
                latest = kind == STEP ? answer : latest;
            }
        }
        return done;
    }

    private boolean comesToItself(int router) {
        int at = now.net.successor[router];
        for (int k = 0; k < ROUTERS && at != NONE && at != router; k++) {
            at = now.net.successor[at];
        }
        return at == router;
    }

    private void shortenWays() {
        for (int one = 0; one < ROUTERS; one++) {
            for (int other = 0; other < ROUTERS; other++) {
                int costs = now.net.cost[one * ROUTERS + other];
                if (costs > 0 && ways[other] + costs < ways[one]) {
                    ways[one] = ways[other] + costs;
                }
            }
        }
    }

    /** How it is then stands on the paper. */
    private int stepsTillQuiet(Program law) {
        paper.copies(now.net);
        for (int steps = 0; steps <= MOST_STEPS; steps++) {
            if (paper.waits == 0) {
                return steps;
            }
            paper.delivers(judge.first(paper, law, now.mood));
            if (paper.waits > MOST_MESSAGES) {
                return NONE;
            }
        }
        return NONE;
    }

    private boolean isAsSeen(int router) {
        for (int i = 0; i < now.seenCount; i++) {
            if (now.net.fact(router, now.seenFact[i]) != now.seenNumber[i]) {
                return false;
            }
        }
        return true;
    }

    private int mostAlike(int among, int fact) {
        int most = 0;
        for (int one = 0; one < ROUTERS; one++) {
            int alike = 0;
            for (int other = 0; other < ROUTERS; other++) {
                if (bit(among, other) == 1 && now.net.fact(other, fact) == now.net.fact(one, fact)) {
                    alike++;
                }
            }
            // For one that it can't be this counts those among the rest that are alike: never more than their own group.
            most = Math.max(most, alike);
        }
        return most;
    }

    private static int drawFrom(int s) {
        return (int) ((s * 1103L + 12345L) % 1000003L);
    }

    /** Routers, links, messages and the time: what an act changes and what is taken back. */
    private static final class Net {
        private final int[] cost = new int[ROUTERS * ROUTERS];
        private final int[] told = new int[ROUTERS * ROUTERS];
        private final int[] near = new int[ROUTERS];
        private final int[] distance = new int[ROUTERS];
        private final int[] bound = new int[ROUTERS];
        private final int[] successor = new int[ROUTERS];
        private final int[] out = new int[ROUTERS];
        private final int[] owed = new int[ROUTERS];
        private final int[] queue = new int[MOST_MESSAGES + SENT_AT_ONCE];
        private int waits;
        private int active;
        private int worse;
        private int time;

        private Net() {
            Arrays.fill(told, FAR);
            Arrays.fill(distance, FAR);
            Arrays.fill(bound, FAR);
            Arrays.fill(successor, NONE);
            distance[GOAL] = 0;
            bound[GOAL] = 0;
        }

        private void copies(Net other) {
            System.arraycopy(other.cost, 0, cost, 0, cost.length);
            System.arraycopy(other.told, 0, told, 0, told.length);
            System.arraycopy(other.near, 0, near, 0, ROUTERS);
            System.arraycopy(other.distance, 0, distance, 0, ROUTERS);
            System.arraycopy(other.bound, 0, bound, 0, ROUTERS);
            System.arraycopy(other.successor, 0, successor, 0, ROUTERS);
            System.arraycopy(other.out, 0, out, 0, ROUTERS);
            System.arraycopy(other.owed, 0, owed, 0, ROUTERS);
            System.arraycopy(other.queue, 0, queue, 0, other.waits);
            waits = other.waits;
            active = other.active;
            worse = other.worse;
            time = other.time;
        }

        private static int kindOf(int message) {
            return message & 3;
        }

        private static int fromOf(int message) {
            return message >> 2 & 7;
        }

        private static int toOf(int message) {
            return message >> 5 & 7;
        }

        private static int distanceOf(int message) {
            return message >> 8;
        }

        private int linkCount() {
            int ends = 0;
            for (int router = 0; router < ROUTERS; router++) {
                ends += Integer.bitCount(near[router]);
            }
            return ends / 2;
        }

        private int waitOn(int from, int to) {
            int waiting = 0;
            for (int i = 0; i < waits; i++) {
                if (fromOf(queue[i]) == from && toOf(queue[i]) == to) {
                    waiting++;
                }
            }
            return waiting;
        }

        private int fact(int router, int fact) {
            switch (fact) {
                case 0:
                    return Integer.bitCount(near[router]);
                case 1:
                    return bit(active, router);
                case 2:
                    return Integer.bitCount(out[router]);
                default:
                    return successor[router];
            }
        }

        private int by(int router, int other) {
            int costs = cost[router * ROUTERS + other];
            return costs == 0 ? FAR : Math.min(FAR, told[router * ROUTERS + other] + costs);
        }

        private int leastBy(int router) {
            int least = FAR;
            for (int other = 0; other < ROUTERS; other++) {
                // It is FAR by itself and by those without a link, so these never matter.
                least = Math.min(least, by(router, other));
            }
            return least;
        }

        private int feasible(int router) {
            int bits = 0;
            for (int other = 0; other < ROUTERS; other++) {
                boolean isNear = (near[router] >> other & 1) == 1;
                if (isNear && told[router * ROUTERS + other] < bound[router]) {
                    bits |= 1 << other;
                }
            }
            return bits;
        }

        /** A message from one to each of some, rising. */
        private void sends(int kind, int from, int toBits) {
            for (int to = 0; to < ROUTERS; to++) {
                if ((toBits >> to & 1) == 1 && waits < queue.length) {
                    queue[waits] = kind | from << 2 | to << 5 | distance[from] << 8;
                    waits++;
                }
            }
        }

        private int relinks(int one, int other, int costs) {
            int was = cost[one * ROUTERS + other];
            cost[one * ROUTERS + other] = costs;
            cost[other * ROUTERS + one] = costs;
            if (was == 0 || costs == 0) {
                told[one * ROUTERS + other] = FAR;
                told[other * ROUTERS + one] = FAR;
                near[one] ^= 1 << other;
                near[other] ^= 1 << one;
            }
            if (was == 0) {
                sends(UPDATE, one, 1 << other);
                sends(UPDATE, other, 1 << one);
            } else if (costs == 0) {
                losesMessages(one, other);
            }
            takesChange(one, other);
            takesChange(other, one);
            return was;
        }

        private void losesMessages(int one, int other) {
            int left = 0;
            for (int i = 0; i < waits; i++) {
                int from = fromOf(queue[i]);
                int to = toOf(queue[i]);
                boolean lost = from == one && to == other || from == other && to == one;
                if (!lost) {
                    queue[left] = queue[i];
                    left++;
                }
            }
            waits = left;
        }

        private void takesChange(int router, int other) {
            if (router == GOAL) {
                return;
            }
            if (bit(active, router) == 0) {
                decides(router, 0);
                return;
            }
            if (bit(near[router], other) == 0) {
                owed[router] &= ~(1 << other);
                out[router] &= ~(1 << other);
            }
            looksAtSuccessor(router, other);
            if (out[router] == 0) {
                ends(router);
            }
        }

        private void looksAtSuccessor(int router, int other) {
            if (successor[router] == other && by(router, other) > distance[router]) {
                worse |= 1 << router;
            }
        }

        /** A message in the queue is delivered: its kind. */
        private int delivers(int place) {
            if (place < 0 || place >= waits) {
                return NONE;
            }
            int message = queue[place];
            waits--;
            System.arraycopy(queue, place + 1, queue, place, waits - place);
            int kind = kindOf(message);
            int from = fromOf(message);
            int to = toOf(message);
            told[to * ROUTERS + from] = distanceOf(message);
            time = Math.min(MOST_TIME, time + 1);
            if (to == GOAL) {
                sends(REPLY, GOAL, kind == QUERY ? 1 << from : 0);
            } else if (bit(active, to) == 0) {
                decides(to, kind == QUERY ? 1 << from : 0);
            } else {
                hears(to, from, kind);
            }
            return kind;
        }

        /** An active one hears of a message. */
        private void hears(int router, int from, int kind) {
            if (kind == UPDATE) {
                looksAtSuccessor(router, from);
            } else if (kind == REPLY) {
                out[router] &= ~(1 << from);
                if (out[router] == 0) {
                    ends(router);
                }
            } else if (successor[router] == from) {
                owed[router] |= 1 << from;
                worse |= 1 << router;
            } else {
                sends(REPLY, router, 1 << from);
            }
        }

        private int cuts(int router) {
            int asked = out[router];
            for (int other = 0; other < ROUTERS; other++) {
                if (bit(asked, other) == 1) {
                    told[router * ROUTERS + other] = FAR;
                }
            }
            out[router] = 0;
            worse &= ~(1 << router);
            ends(router);
            return Integer.bitCount(asked);
        }

        /** The asker as a bit, 0 for nobody. */
        private void decides(int router, int asker) {
            int before = distance[router];
            if (takesLeast(router, feasible(router))) {
                bound[router] = Math.min(bound[router], distance[router]);
                sends(REPLY, router, asker);
                if (distance[router] != before) {
                    sends(UPDATE, router, near[router] & ~asker);
                }
            } else if (before == FAR && leastBy(router) == FAR) {
                successor[router] = NONE;
                sends(REPLY, router, asker);
            } else {
                goesActive(router, asker);
            }
        }

        /** Whether one of some is the least by any, and not too far: the lowest such is taken then. */
        private boolean takesLeast(int router, int among) {
            int least = FAR;
            int leastAmong = FAR;
            int lowest = NONE;
            for (int other = 0; other < ROUTERS; other++) {
                int far = by(router, other);
                least = Math.min(least, far);
                if ((among >> other & 1) == 1 && far < leastAmong) {
                    leastAmong = far;
                    lowest = other;
                }
            }
            if (lowest == NONE || leastAmong > least) {
                return false;
            }
            successor[router] = lowest;
            distance[router] = least;
            return true;
        }

        private void goesActive(int router, int owing) {
            distance[router] = successor[router] == NONE ? FAR : by(router, successor[router]);
            bound[router] = distance[router];
            worse &= ~(1 << router);
            if (near[router] == 0) {
                // It ends at once: all is FAR without a neighbour, and nobody is there to be told.
                successor[router] = NONE;
                active &= ~(1 << router);
                out[router] = 0;
                owed[router] = 0;
                return;
            }
            active |= 1 << router;
            out[router] = near[router];
            owed[router] = owing;
            sends(QUERY, router, near[router]);
        }

        private void ends(int router) {
            int before = distance[router];
            if (bit(worse, router) == 0) {
                if (!takesLeast(router, near[router])) {
                    successor[router] = NONE;
                    distance[router] = FAR;
                }
                bound[router] = distance[router];
            } else if (takesLeast(router, feasible(router))) {
                bound[router] = Math.min(bound[router], distance[router]);
            } else {
                goesActive(router, owed[router]);
                return;
            }
            active &= ~(1 << router);
            worse &= ~(1 << router);
            sends(REPLY, router, owed[router]);
            if (distance[router] != before) {
                sends(UPDATE, router, near[router] & ~owed[router]);
            }
            owed[router] = 0;
        }
    }

    /** All that an image keeps. */
    private static final class World {
        private final Net net = new Net();
        private final Program[] laws = new Program[MOST_LAWS];
        private final int[] seenFact = new int[MOST_SEEN];
        private final int[] seenNumber = new int[MOST_SEEN];
        private int lawCount;
        private int force = NONE;
        private int seenCount;
        private int slips = 1;
        private int mood;

        private World() {
        }

        private void copies(World other) {
            net.copies(other.net);
            for (int i = 0; i < MOST_LAWS; i++) {
                laws[i] = other.laws[i];
            }
            System.arraycopy(other.seenFact, 0, seenFact, 0, MOST_SEEN);
            System.arraycopy(other.seenNumber, 0, seenNumber, 0, MOST_SEEN);
            lawCount = other.lawCount;
            force = other.force;
            seenCount = other.seenCount;
            slips = other.slips;
            mood = other.mood;
        }

        /** None, if there is no such law. */
        private Program lawAt(int law) {
            return law >= 0 && law < lawCount ? laws[law] : null;
        }

        private int term(int what) {
            return what == 0 ? net.time : what == 1 ? slips : mood;
        }

        private void setTerm(int what, int value) {
            if (what == 0) {
                net.time = value;
            } else if (what == 1) {
                slips = value;
            } else {
                mood = value;
            }
        }
    }

    /** What can be undone. One place more than is kept: there a net stands ahead of an act that may not be kept. */
    private static final class History {
        private static final int PLACES = MOST_UNDONE + 1;
        private final Net[] nets = new Net[PLACES];
        private final int[] kinds = new int[PLACES];
        private int next;
        private int kept;

        private History() {
            for (int i = 0; i < PLACES; i++) {
                nets[i] = new Net();
            }
        }

        private void prepares(Net net) {
            nets[next].copies(net);
        }

        private void putsBack(Net net) {
            net.copies(nets[next]);
        }

        private void keeps(int kind) {
            kinds[next] = kind;
            next = (next + 1) % PLACES;
            kept = Math.min(MOST_UNDONE, kept + 1);
        }

        private int takesBack(Net net) {
            next = (next + PLACES - 1) % PLACES;
            kept--;
            net.copies(nets[next]);
            return kinds[next];
        }

        private void clears() {
            kept = 0;
        }
    }

    /** A text that was read: for each clause where its parts stand in the code. */
    private static final class Program {
        private static final int SUMS = 3;
        private static final int KIND = 0;
        private static final int TIMES = 1;
        private static final int TEST = 2;
        private static final int FIRST_SUM = 3;
        private static final int CLAUSE_SIZE = FIRST_SUM + SUMS;

        private static final int OPERATION_SHIFT = 12;
        private static final int ARGUMENT_MASK = (1 << OPERATION_SHIFT) - 1;
        private static final int STOP = 0;
        private static final int NUMBER = 1;
        private static final int WORD = 2;
        private static final int NOT = 3;
        private static final int OR = 4;
        private static final int AND = 5;
        private static final int ADD = 6;
        private static final int SUBTRACT = 7;
        private static final int MULTIPLY = 8;
        private static final int DIVIDE = 9;
        private static final int LEAVE = 10;
        private static final int LESS = 11;
        private static final int MORE = 12;
        private static final int SAME = 13;

        private final int[] code;
        private final int[] clauses;
        private final int clauseCount;

        private Program(int[] code, int[] clauses, int clauseCount) {
            this.code = code;
            this.clauses = clauses;
            this.clauseCount = clauseCount;
        }

        private int kind(int clause) {
            return clauses[clause * CLAUSE_SIZE + KIND];
        }

        private int times(int clause) {
            return clauses[clause * CLAUSE_SIZE + TIMES];
        }

        private int test(int clause) {
            return clauses[clause * CLAUSE_SIZE + TEST];
        }

        private int sum(int clause, int i) {
            return clauses[clause * CLAUSE_SIZE + FIRST_SUM + i];
        }
    }

    /** Asks laws and orders. The words' values stand in facts, each in the place of its number. */
    private static final class Judge {
        private static final int KIND = 0;
        private static final int FROM = 1;
        private static final int TO = 2;
        private static final int HOW_FAR = 3;
        private static final int WAITS = 4;
        private static final int TIME = 5;
        private static final int MOOD = 6;
        private static final int DONE = 7;
        private static final int LATEST = 8;
        private static final int DISTANCE = 9;
        private static final int ACTIVE = DISTANCE + ROUTERS;
        private static final int WORDS = ACTIVE + ROUTERS;

        private static final int MOST_RANK = 99;
        private static final int MOST_VALUE = 1000000000;
        // Beyond every value that is not broken.
        private static final int BROKEN = 2000000000;

        private final int[] facts = new int[WORDS];
        // Three stand open at most within each of eight brackets and around them.
        private final int[] stack = new int[64];

        private Judge() {
        }

        private void looksAt(Net net, int mood) {
            facts[WAITS] = net.waits;
            facts[TIME] = net.time;
            facts[MOOD] = mood;
        }

        private void looksAtRun(Net net, int done, int latest) {
            facts[WAITS] = net.waits;
            facts[TIME] = net.time;
            facts[DONE] = done;
            facts[LATEST] = latest;
            for (int router = 0; router < ROUTERS; router++) {
                facts[DISTANCE + router] = net.distance[router];
                facts[ACTIVE + router] = bit(net.active, router);
            }
        }

        private void looksAtChange(int kind, int from, int to, int far) {
            facts[KIND] = kind;
            facts[FROM] = from;
            facts[TO] = to;
            facts[HOW_FAR] = far;
        }

        /** The place of the message that is delivered first. */
        private int first(Net net, Program law, int mood) {
            if (law == null) {
                return 0;
            }
            looksAt(net, mood);
            long met = 0;
            int least = MOST_RANK + 1;
            int place = 0;
            // Nothing ranks below 0, and of alike ones the eldest goes first: there the search can end.
            for (int i = 0; i < net.waits && least > 0; i++) {
                int message = net.queue[i];
                long way = 1L << Net.fromOf(message) * ROUTERS + Net.toOf(message);
                if ((met & way) == 0) {
                    met |= way;
                    int ranks = rank(law, message);
                    if (ranks < least) {
                        least = ranks;
                        place = i;
                    }
                }
            }
            return place;
        }

        private int rank(Program law, int message) {
            if (law == null) {
                return 0;
            }
            looksAtChange(Net.kindOf(message), Net.fromOf(message), Net.toOf(message), Net.distanceOf(message));
            // The last one that holds tells it, so the first that is met from behind.
            for (int clause = law.clauseCount - 1; clause >= 0; clause--) {
                if (law.kind(clause) == RANKS && value(law, law.test(clause)) == 1) {
                    int rank = value(law, law.sum(clause, 0));
                    if (rank != BROKEN) {
                        return Math.max(0, Math.min(MOST_RANK, rank));
                    }
                }
            }
            return 0;
        }

        private boolean bars(Program law, int one, int other, int costs) {
            if (law == null) {
                return false;
            }
            looksAtChange(NONE, one, other, costs);
            for (int clause = 0; clause < law.clauseCount; clause++) {
                if (law.kind(clause) == BARS && value(law, law.test(clause)) == 1) {
                    return true;
                }
            }
            return false;
        }

        /** Whether none of a clause's sums is broken: they stand in the row then, 0 where there is none. */
        private boolean tellsSums(Program program, int clause, int[] row) {
            for (int i = 0; i < Program.SUMS && i < row.length; i++) {
                int at = program.sum(clause, i);
                row[i] = at == NONE ? 0 : value(program, at);
                if (row[i] == BROKEN) {
                    return false;
                }
            }
            return true;
        }

        /** A sum's value, 1 or 0 of a test, or BROKEN; a test that is not there is so. */
        private int value(Program program, int at) {
            if (at < 0) {
                return 1;
            }
            int[] code = program.code;
            int top = -1;
            for (int i = at; i < code.length; i++) {
                int operation = code[i] >> Program.OPERATION_SHIFT;
                int argument = code[i] & Program.ARGUMENT_MASK;
                if (operation == Program.NUMBER || operation == Program.WORD) {
                    if (top + 1 >= stack.length || operation == Program.WORD && argument >= facts.length) {
                        return BROKEN;
                    }
                    top++;
                    stack[top] = operation == Program.NUMBER ? argument : facts[argument];
                    continue;
                }
                if (top < 0 || operation == Program.STOP) {
                    return top < 0 ? BROKEN : stack[top];
                }
                if (operation == Program.NOT) {
                    stack[top] = 1 - stack[top];
                } else if (operation == Program.OR || operation == Program.AND) {
                    // What is so settles an "or", what is not an "and": the value stays, what is behind is not asked.
                    boolean settled = stack[top] == (operation == Program.OR ? 1 : 0);
                    i = settled ? Math.max(i, argument - 1) : i;
                    top = settled ? top : top - 1;
                } else {
                    int joined = top < 1 ? BROKEN : joins(operation, stack[top - 1], stack[top]);
                    if (joined == BROKEN) {
                        return BROKEN;
                    }
                    top--;
                    stack[top] = joined;
                }
            }
            return BROKEN;
        }

        private static int joins(int operation, int left, int right) {
            long value;
            switch (operation) {
                case Program.ADD:
                    value = (long) left + right;
                    break;
                case Program.SUBTRACT:
                    value = (long) left - right;
                    break;
                case Program.MULTIPLY:
                    value = (long) left * right;
                    break;
                case Program.DIVIDE:
                    value = right == 0 ? BROKEN : left / right;
                    break;
                case Program.LEAVE:
                    value = right == 0 ? BROKEN : left % right;
                    break;
                case Program.LESS:
                    value = left < right ? 1 : 0;
                    break;
                case Program.MORE:
                    value = left > right ? 1 : 0;
                    break;
                default:
                    value = left == right ? 1 : 0;
                    break;
            }
            return value < -MOST_VALUE || value > MOST_VALUE ? BROKEN : (int) value;
        }
    }

    /** The tape and the token on it that is looked at. */
    private static final class Tape {
        private static final int MOST_BYTES = 400;
        private static final int FED_AT_ONCE = 20;
        private static final int NOTHING = 0;
        private static final int LETTERS = 1;
        private static final int DIGITS = 2;
        private static final int SIGN = 3;
        // Above every number that a text may have: what is more is alike.
        private static final int TOO_MUCH = 10000;

        private final int[] bytes = new int[MOST_BYTES];
        private int length;
        private int at;
        private int behind;
        private int type;
        private int number;

        private Tape() {
        }

        private boolean hasRoom() {
            return length + FED_AT_ONCE <= MOST_BYTES;
        }

        private void takes(int four) {
            for (int shift = 24; shift >= 0 && length < MOST_BYTES; shift -= 8) {
                bytes[length] = four >> shift & 255;
                length++;
            }
        }

        private void starts() {
            behind = 0;
            advances();
        }

        private void advances() {
            at = behind;
            while (at < length && bytes[at] == ' ') {
                at++;
            }
            behind = at;
            number = 0;
            if (at >= length) {
                type = NOTHING;
            } else if (isLetter(bytes[at])) {
                type = LETTERS;
                while (behind < length && isLetter(bytes[behind])) {
                    behind++;
                }
            } else if (isDigit(bytes[at])) {
                type = DIGITS;
                while (behind < length && isDigit(bytes[behind])) {
                    number = Math.min(TOO_MUCH, number * 10 + bytes[behind] - '0');
                    behind++;
                }
            } else {
                type = SIGN;
                behind++;
            }
        }

        private static boolean isLetter(int sign) {
            return sign >= 'a' && sign <= 'z';
        }

        private static boolean isDigit(int sign) {
            return sign >= '0' && sign <= '9';
        }

        private boolean hasWord(String word) {
            if (type != LETTERS || behind - at != word.length()) {
                return false;
            }
            for (int i = 0; i < word.length(); i++) {
                if (bytes[at + i] != word.charAt(i)) {
                    return false;
                }
            }
            return true;
        }

        private boolean hasSign(char sign) {
            return type == SIGN && bytes[at] == sign;
        }

        private boolean hasNumber(int lowest, int highest) {
            return type == DIGITS && number >= lowest && number <= highest;
        }
    }

    /** Reads the tape in one of both languages. What reads a part answers whether it could. */
    private static final class Reader {
        private static final int MOST_CLAUSES = 12;
        private static final int MOST_PARTS = 50;
        private static final int MOST_BRACKETS = 8;
        private static final int MOST_NUMBER = 1000;
        private static final int MOST_TIMES = 20;
        // No token makes more than one operation, and each clause's sums and test one more at their end.
        private static final int MOST_CODE = Tape.MOST_BYTES + MOST_CLAUSES * (Program.SUMS + 1);

        private static final int OR_LEVEL = 0;
        private static final int AND_LEVEL = 1;
        private static final int SUM_LEVEL = 2;
        private static final int TERM_LEVEL = 3;

        private final Tape tape = new Tape();
        private final int[] code = new int[MOST_CODE];
        private final int[] clauses = new int[MOST_CLAUSES * Program.CLAUSE_SIZE];
        private int codeLength;
        private int parts;
        private boolean orders;
        private int fault = NONE;

        private Reader() {
        }

        /** None, if there is a fault. */
        private Program reads(boolean asOrders) {
            orders = asOrders;
            codeLength = 0;
            parts = 0;
            fault = NONE;
            tape.starts();
            for (int clause = 0; clause < MOST_CLAUSES; clause++) {
                if (!readsClause(clause * Program.CLAUSE_SIZE)) {
                    return null;
                }
                if (tape.type == Tape.NOTHING) {
                    int size = (clause + 1) * Program.CLAUSE_SIZE;
                    return new Program(Arrays.copyOf(code, codeLength), Arrays.copyOf(clauses, size), clause + 1);
                }
                if (!takesSign(';')) {
                    return null;
                }
            }
            fails();
            return null;
        }

        private boolean fails() {
            fault = tape.at;
            return false;
        }

        private boolean takesSign(char sign) {
            if (!tape.hasSign(sign)) {
                return fails();
            }
            tape.advances();
            return true;
        }

        private boolean takesWord(String word) {
            if (!tape.hasWord(word)) {
                return fails();
            }
            tape.advances();
            return true;
        }

        private void emits(int operation, int argument) {
            if (codeLength < code.length) {
                code[codeLength] = operation << Program.OPERATION_SHIFT | argument;
                codeLength++;
            }
        }

        private boolean readsClause(int base) {
            int kind = kindAt();
            if (kind == NONE) {
                return fails();
            }
            tape.advances();
            for (int i = 0; i < Program.CLAUSE_SIZE; i++) {
                clauses[base + i] = NONE;
            }
            clauses[base + Program.KIND] = kind;
            clauses[base + Program.TIMES] = 1;
            return readsSums(base, kind) && readsTimes(base) && readsTest(base);
        }

        private int kindAt() {
            if (orders) {
                return tape.hasWord("link") ? LINK : tape.hasWord("step") ? STEP : tape.hasWord("cut") ? CUT : NONE;
            }
            return tape.hasWord("ranks") ? RANKS : tape.hasWord("bars") ? BARS : NONE;
        }

        private boolean readsSums(int base, int kind) {
            int sums = kind == LINK ? Program.SUMS : kind == CUT || kind == RANKS ? 1 : 0;
            for (int i = 0; i < sums; i++) {
                if (i > 0 && !takesWord(i == 1 ? "to" : "as")) {
                    return false;
                }
                clauses[base + Program.FIRST_SUM + i] = codeLength;
                if (!readsChain(SUM_LEVEL, 0)) {
                    return false;
                }
                emits(Program.STOP, 0);
            }
            return true;
        }

        private boolean readsTimes(int base) {
            if (!orders || !tape.hasWord("times")) {
                return true;
            }
            tape.advances();
            if (!tape.hasNumber(1, MOST_TIMES)) {
                return fails();
            }
            clauses[base + Program.TIMES] = tape.number;
            tape.advances();
            return true;
        }

        private boolean readsTest(int base) {
            if (!tape.hasWord("if")) {
                return true;
            }
            tape.advances();
            clauses[base + Program.TEST] = codeLength;
            boolean fine = readsChain(OR_LEVEL, 0);
            emits(Program.STOP, 0);
            return fine;
        }

        /** Parts of the level below, joined by what joins at this level. Open: how many brackets stand open. */
        private boolean readsChain(int level, int open) {
            int joint = NONE;
            for (int i = 0; i <= Tape.MOST_BYTES; i++) {
                boolean skips = joint == Program.OR || joint == Program.AND;
                int skip = codeLength;
                if (skips) {
                    emits(joint, 0);
                }
                boolean fine = level == OR_LEVEL ? readsChain(AND_LEVEL, open)
                    : level == SUM_LEVEL ? readsChain(TERM_LEVEL, open)
                    : level == AND_LEVEL ? readsPlain(open) : readsPart(open);
                if (!fine) {
                    return false;
                }
                if (skips && skip < code.length) {
                    code[skip] |= codeLength;
                } else if (joint != NONE) {
                    emits(joint, 0);
                }
                joint = jointAt(level);
                if (joint == NONE) {
                    return true;
                }
                tape.advances();
            }
            return fails();
        }

        private int jointAt(int level) {
            switch (level) {
                case OR_LEVEL:
                    return tape.hasWord("or") ? Program.OR : NONE;
                case AND_LEVEL:
                    return tape.hasWord("and") ? Program.AND : NONE;
                case SUM_LEVEL:
                    return tape.hasSign('+') ? Program.ADD : tape.hasSign('-') ? Program.SUBTRACT : NONE;
                default:
                    return tape.hasSign('*') ? Program.MULTIPLY
                        : tape.hasSign('/') ? Program.DIVIDE : tape.hasSign('%') ? Program.LEAVE : NONE;
            }
        }

        private boolean readsPlain(int open) {
            // Counted in place of one within the other: a hundred of them have room on the tape.
            int nots = 0;
            for (int i = 0; i < Tape.MOST_BYTES && tape.hasWord("not"); i++) {
                nots++;
                tape.advances();
            }
            boolean fine = tape.hasSign('(') ? readsBracket(OR_LEVEL, ')', open) : readsComparison(open);
            if (fine && nots % 2 == 1) {
                emits(Program.NOT, 0);
            }
            return fine;
        }

        private boolean readsComparison(int open) {
            if (!readsChain(SUM_LEVEL, open)) {
                return false;
            }
            int compares = tape.hasSign('<') ? Program.LESS
                : tape.hasSign('>') ? Program.MORE : tape.hasSign('=') ? Program.SAME : NONE;
            if (compares == NONE) {
                return fails();
            }
            tape.advances();
            boolean fine = readsChain(SUM_LEVEL, open);
            emits(compares, 0);
            return fine;
        }

        private boolean readsBracket(int level, char close, int open) {
            if (open >= MOST_BRACKETS) {
                return fails();
            }
            tape.advances();
            return readsChain(level, open + 1) && takesSign(close);
        }

        private boolean readsPart(int open) {
            if (tape.hasSign('[')) {
                return readsBracket(SUM_LEVEL, ']', open);
            }
            boolean isNumber = tape.hasNumber(0, MOST_NUMBER);
            int word = isNumber ? NONE : wordAt();
            if (!isNumber && word == NONE || parts >= MOST_PARTS) {
                return fails();
            }
            parts++;
            int argument = isNumber ? tape.number : word;
            tape.advances();
            if (word == Judge.DISTANCE || word == Judge.ACTIVE) {
                if (!tape.hasNumber(0, ROUTERS - 1)) {
                    return fails();
                }
                argument += tape.number;
                tape.advances();
            }
            emits(isNumber ? Program.NUMBER : Program.WORD, argument);
            return true;
        }

        private int wordAt() {
            int word = tape.hasWord("time") ? Judge.TIME : tape.hasWord("waits") ? Judge.WAITS : NONE;
            if (word != NONE) {
                return word;
            }
            if (orders) {
                return tape.hasWord("done") ? Judge.DONE
                    : tape.hasWord("latest") ? Judge.LATEST
                    : tape.hasWord("distance") ? Judge.DISTANCE
                    : tape.hasWord("active") ? Judge.ACTIVE : NONE;
            }
            return tape.hasWord("kind") ? Judge.KIND
                : tape.hasWord("from") ? Judge.FROM
                : tape.hasWord("to") ? Judge.TO
                : tape.hasWord("far") ? Judge.HOW_FAR
                : tape.hasWord("mood") ? Judge.MOOD : NONE;
        }
    }
}
