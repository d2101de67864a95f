import java.util.Arrays;
import java.util.NoSuchElementException;

/**
 * Routes in a network whose arcs may be delayed by an opponent with a budget. The numbers of the
 * sections in the comments are those of the document.
 */
public final class RouteBudget {
    public static final int NONE = -1;
    public static final int SYNTAX_ERROR = -2;
    public static final int VALUE_ERROR = -3;
    public static final int TOO_MANY = -4;

    private static final int LEAST_NODES = 2;
    private static final int MOST_NODES = 8;
    private static final int MOST_ARCS = 16;
    private static final int MOST_COST = 99;
    private static final int MOST_BUDGET = 6;
    private static final int USUAL_BUDGET = 2;
    private static final int MOST_ROUTE_ARCS = 7;
    private static final int MOST_TOLD = 6;
    private static final int MOST_STEPS = 20;
    private static final int MOST_GAME_STEPS = 64;
    private static final int MOST_TEXT = 600;
    private static final int MOST_UNDO = 8;
    private static final int MOST_WRITTEN = 15;
    private static final int APPENDED = 20;

    /** Above every cost, every number in a text that could be right, and every needed repetition. */
    private static final int MANY = 1000000;

    /** All that undo brings back. */
    private final State now;
    private final History history;
    private final TextReader reader;
    private final State loaded;
    private final RouteWalk walk;
    private final Judge judge;
    private final Ranking ranking;
    private final Game game;
    private final byte[] written;
    private int writtenLength;

    public RouteBudget() {
        now = new State();
        now.begin(LEAST_NODES, 0, 1);
        history = new History();
        reader = new TextReader();
        loaded = new State();
        walk = new RouteWalk(now.network);
        judge = new Judge(now);
        ranking = new Ranking(now.network, walk, judge);
        game = new Game(now.network);
        written = new byte[MOST_WRITTEN];
        writtenLength = 0;
    }

    public int append(int a, int b, int c, int d, int e) throws IllegalStateException {
        if (reader.textLength + APPENDED > MOST_TEXT) {
            throw new IllegalStateException("the text buffer is full");
        }
        reader.addBytes(a);
        reader.addBytes(b);
        reader.addBytes(c);
        reader.addBytes(d);
        reader.addBytes(e);
        return reader.textLength;
    }

    public int load(int length) throws IllegalArgumentException {
        if (length < 0 || length > reader.textLength) {
            throw new IllegalArgumentException("the text buffer has not this length");
        }
        boolean isRight = reader.readNetwork(length, loaded);
        reader.textLength = 0;
        if (!isRight) {
            return reader.errorCode;
        }
        beginChange();
        now.copyFrom(loaded);
        return now.network.arcs;
    }

    public int errorPosition() {
        return reader.errorPlace;
    }

    public int count(int what) throws IllegalArgumentException {
        switch (what) {
            case 0:
                return now.network.nodes;
            case 1:
                return now.network.arcs;
            case 2:
                return now.network.source;
            case 3:
                return now.network.target;
            case 4:
                return now.network.budget;
            case 5:
                return now.toldCount;
            case 6:
                return now.draft.length;
            case 7:
                return walk.countRoutes();
            case 8:
                return now.journey.nodeNow();
            case 9:
                return now.journey.timeNow();
            case 10:
                return now.journey.leftNow();
            case 11:
                return now.journey.steps;
            default:
                throw new IllegalArgumentException("no such number of the network");
        }
    }

    public int arc(int arc, int what) throws IndexOutOfBoundsException, IllegalArgumentException {
        requireArc(arc);
        switch (what) {
            case 0:
                return now.network.tails[arc];
            case 1:
                return now.network.heads[arc];
            case 2:
                return now.network.costs[arc];
            case 3:
                return now.network.extras[arc];
            default:
                throw new IllegalArgumentException("no such number of an arc");
        }
    }

    public int addArc(int tail, int head, int cost, int extra)
            throws IndexOutOfBoundsException, IllegalArgumentException, IllegalStateException {
        requireNode(tail);
        requireNode(head);
        if (tail == head) {
            throw new IllegalArgumentException("an arc leads to another node");
        }
        requireCosts(cost, extra);
        if (now.network.arcs >= MOST_ARCS) {
            throw new IllegalStateException("there are 16 arcs");
        }
        beginChange();
        now.network.addLast(tail, head, cost, extra);
        now.journey.begin(now.network);
        return now.network.arcs - 1;
    }

    public int removeArc(int arc) throws IndexOutOfBoundsException, IllegalStateException {
        requireArc(arc);
        if (now.usesArc(arc)) {
            throw new IllegalStateException("the draft or a told route has the arc");
        }
        beginChange();
        now.takeArcOut(arc);
        now.journey.begin(now.network);
        return now.network.arcs;
    }

    public int setArc(int arc, int cost, int extra) throws IndexOutOfBoundsException, IllegalArgumentException {
        requireArc(arc);
        requireCosts(cost, extra);
        int before = 100 * now.network.costs[arc] + now.network.extras[arc];
        beginChange();
        now.network.costs[arc] = cost;
        now.network.extras[arc] = extra;
        now.journey.begin(now.network);
        return before;
    }

    public int setBudget(int budget) throws IllegalArgumentException {
        requireBudget(budget);
        int before = now.network.budget;
        beginChange();
        now.network.budget = budget;
        now.journey.begin(now.network);
        return before;
    }

    public int draft(int arc) throws IndexOutOfBoundsException, IllegalStateException {
        requireArc(arc);
        if (!now.network.canFollow(now.draft, arc)) {
            throw new IllegalStateException("the arc cannot follow in the draft");
        }
        beginChange();
        now.draft.push(arc);
        return now.network.endOf(now.draft);
    }

    public int drop() throws IllegalStateException {
        if (now.draft.length == 0) {
            throw new IllegalStateException("the draft is empty");
        }
        beginChange();
        now.draft.pop();
        return now.draft.length;
    }

    public int reason() {
        if (now.network.endOf(now.draft) != now.network.target) {
            return 1;
        }
        if (now.wasTold(now.draft)) {
            return 2;
        }
        return now.toldCount >= MOST_TOLD ? 3 : 0;
    }

    public int tell() throws IllegalStateException {
        if (reason() != 0) {
            throw new IllegalStateException("the draft cannot be told");
        }
        beginChange();
        now.addTold(now.draft);
        now.draft.clear();
        return now.toldCount - 1;
    }

    public int forget(int route) throws IndexOutOfBoundsException {
        requireRoute(route);
        beginChange();
        now.takeToldOut(route);
        return now.toldCount;
    }

    public int routeArc(int route, int index) throws IndexOutOfBoundsException {
        requireRoute(route);
        return arcAt(now.told[route], index);
    }

    public int route(int route, int what) throws IndexOutOfBoundsException, IllegalArgumentException {
        requireRoute(route);
        if (what < 0 || what > 7) {
            throw new IllegalArgumentException("no such number of a told route");
        }
        if (what == 6) {
            return judge.toldRegretOf(now.told[route]);
        }
        if (what == 7) {
            return judge.countBeating(now.told[route]);
        }
        return numberOf(now.told[route], what);
    }

    public int cost(int route, int delay) throws IndexOutOfBoundsException {
        requireRoute(route);
        return now.network.costAgainst(now.told[route], delay);
    }

    public int chosen() throws NoSuchElementException {
        if (now.toldCount == 0) {
            throw new NoSuchElementException("there are no told routes");
        }
        return judge.chooseTold();
    }

    public boolean beats(int route, int other) throws IndexOutOfBoundsException {
        requireRoute(route);
        requireRoute(other);
        return judge.isBeating(now.told[route], now.told[other]);
    }

    public float strain(int route) throws IndexOutOfBoundsException {
        requireRoute(route);
        int plain = now.network.costAgainst(now.told[route], 0);
        if (plain == 0) {
            return 1.0f;
        }
        return (float) now.network.worstOf(now.told[route]) / (float) plain;
    }

    public int shortest(int delay) throws NoSuchElementException {
        int least = judge.shortestCost(delay);
        if (least == NONE) {
            throw new NoSuchElementException("there is no route");
        }
        return least;
    }

    public int robust(int what) throws IllegalArgumentException, NoSuchElementException {
        requireRouteNumber(what);
        Path best = ranking.robustRoute();
        requireSome(best);
        return numberOf(best, what);
    }

    public int calm(int what) throws IllegalArgumentException, NoSuchElementException {
        requireRouteNumber(what);
        Path best = ranking.calmRoute();
        requireSome(best);
        return numberOf(best, what);
    }

    public int bestArc(boolean calm, int index) throws IndexOutOfBoundsException {
        return arcAt(calm ? ranking.calmRoute() : ranking.robustRoute(), index);
    }

    public int within(int most) {
        return walk.countWithin(most);
    }

    public int value(int node, int left) throws IndexOutOfBoundsException, IllegalArgumentException {
        requireNode(node);
        requireBudget(left);
        game.solve();
        return game.worthOf(node, left);
    }

    public int bestNext(int node, int left) throws IndexOutOfBoundsException, IllegalArgumentException {
        requireNode(node);
        requireBudget(left);
        game.solve();
        return game.bestArcOf(node, left);
    }

    public int step(int arc, boolean isDelayed) throws IndexOutOfBoundsException, IllegalStateException {
        requireArc(arc);
        if (!now.journey.canGo(now.network, arc, isDelayed)) {
            throw new IllegalStateException("the journey cannot make this step");
        }
        beginChange();
        now.journey.go(now.network, arc, isDelayed);
        return now.journey.timeNow();
    }

    public int restart() {
        int before = now.journey.steps;
        beginChange();
        now.journey.begin(now.network);
        return before;
    }

    public int promise() throws NoSuchElementException {
        return promiseBehind(now.journey.steps);
    }

    public int grief(int step) throws IndexOutOfBoundsException, NoSuchElementException {
        if (step < 0 || step >= now.journey.steps) {
            throw new IndexOutOfBoundsException("there was no such step");
        }
        int before = promiseBehind(step);
        return promiseBehind(step + 1) - before;
    }

    public int writeRoute(int route) throws IndexOutOfBoundsException {
        requireRoute(route);
        Path path = now.told[route];
        int witness = now.network.witnessOf(path);
        writtenLength = 0;
        writeByte('0' + now.network.source);
        for (int i = 0; i < path.length; i++) {
            int arc = path.arcs[i];
            writeByte(isIn(witness, arc) ? '+' : '-');
            writeByte('0' + now.network.heads[arc]);
        }
        return writtenLength;
    }

    public int writtenByte(int index) throws IndexOutOfBoundsException {
        if (index < 0 || index >= writtenLength) {
            throw new IndexOutOfBoundsException("there is no such byte");
        }
        return written[index];
    }

    public int undo() throws IllegalStateException {
        if (history.size == 0) {
            throw new IllegalStateException("there is no change to undo");
        }
        history.takeBack(now);
        forgetResults();
        return history.size;
    }

    private void requireNode(int node) {
        if (node < 0 || node >= now.network.nodes) {
            throw new IndexOutOfBoundsException("the node does not exist");
        }
    }

    private void requireArc(int arc) {
        if (arc < 0 || arc >= now.network.arcs) {
            throw new IndexOutOfBoundsException("the arc does not exist");
        }
    }

    private void requireRoute(int route) {
        if (route < 0 || route >= now.toldCount) {
            throw new IndexOutOfBoundsException("the told route does not exist");
        }
    }

    private static void requireCosts(int cost, int extra) {
        if (cost < 0 || cost > MOST_COST || extra < 0 || extra > MOST_COST) {
            throw new IllegalArgumentException("a cost or an extra is 0 to 99");
        }
    }

    private static void requireBudget(int budget) {
        if (budget < 0 || budget > MOST_BUDGET) {
            throw new IllegalArgumentException("a budget is 0 to 6");
        }
    }

    private static void requireRouteNumber(int what) {
        if (what < 0 || what > 5) {
            throw new IllegalArgumentException("no such number of a route");
        }
    }

    /** The best route of a network without any is an empty path. */
    private static void requireSome(Path best) {
        if (best.length == 0) {
            throw new NoSuchElementException("there is no route");
        }
    }

    /** Stands before every change, once nothing can be thrown any more. */
    private void beginChange() {
        history.keep(now);
        forgetResults();
    }

    private void forgetResults() {
        ranking.forgetBest();
        game.forgetValues();
    }

    private static int arcAt(Path path, int index) {
        if (index < 0 || index >= path.length) {
            throw new IndexOutOfBoundsException("the route has not so many arcs");
        }
        return path.arcs[index];
    }

    /** The numbers 0 to 5 that told routes, the robust and the calm route have in common. */
    private int numberOf(Path path, int what) {
        switch (what) {
            case 0:
                return path.length;
            case 1:
                return now.network.costAgainst(path, 0);
            case 2:
                return now.network.worstOf(path);
            case 3:
                return now.network.witnessOf(path);
            case 4:
                return judge.regretOf(path);
            default:
                return judge.regretWitnessOf(path);
        }
    }

    private int promiseBehind(int steps) {
        Journey journey = now.journey;
        game.solve();
        int worth = game.worthOf(journey.places[steps], journey.lefts[steps]);
        if (worth == NONE) {
            throw new NoSuchElementException("the node has no value");
        }
        return journey.times[steps] + worth;
    }

    private void writeByte(int sign) {
        if (writtenLength < written.length) {
            written[writtenLength] = (byte) sign;
            writtenLength++;
        }
    }

    private static boolean isIn(int mask, int arc) {
        return ((mask >> arc) & 1) == 1;
    }

    /** Arcs in a row: a route, or the beginning of one. No route is without arcs. */
    private static final class Path {
        final int[] arcs = new int[MOST_ROUTE_ARCS];
        int length = 0;

        void clear() {
            length = 0;
        }

        void push(int arc) {
            if (length < arcs.length) {
                arcs[length] = arc;
                length++;
            }
        }

        /** Takes the last arc away and returns it. */
        int pop() {
            if (length == 0) {
                return NONE;
            }
            length--;
            return arcs[length];
        }

        boolean hasArc(int arc) {
            for (int i = 0; i < length; i++) {
                if (arcs[i] == arc) {
                    return true;
                }
            }
            return false;
        }

        boolean isSame(Path other) {
            if (length != other.length) {
                return false;
            }
            for (int i = 0; i < length; i++) {
                if (arcs[i] != other.arcs[i]) {
                    return false;
                }
            }
            return true;
        }

        /** Follows the new numbers of the arcs when this arc, which is not here, is removed. */
        void renumberBehind(int arc) {
            for (int i = 0; i < length; i++) {
                if (arcs[i] > arc) {
                    arcs[i]--;
                }
            }
        }

        /** The delay of those arcs whose places are in a bit mask. */
        int delayAt(int picked) {
            int delay = 0;
            for (int i = 0; i < length; i++) {
                if (isIn(picked, i)) {
                    delay |= 1 << arcs[i];
                }
            }
            return delay;
        }

        void copyFrom(Path other) {
            System.arraycopy(other.arcs, 0, arcs, 0, MOST_ROUTE_ARCS);
            length = other.length;
        }
    }

    /** The network of section 1, and what it makes of a path. */
    private static final class Network {
        int nodes;
        int source;
        int target;
        int budget;
        int arcs;
        final int[] tails = new int[MOST_ARCS];
        final int[] heads = new int[MOST_ARCS];
        final int[] costs = new int[MOST_ARCS];
        final int[] extras = new int[MOST_ARCS];

        void begin(int nodeCount, int first, int last) {
            nodes = nodeCount;
            source = first;
            target = last;
            budget = USUAL_BUDGET;
            arcs = 0;
        }

        void addLast(int tail, int head, int cost, int extra) {
            if (arcs < MOST_ARCS) {
                tails[arcs] = tail;
                heads[arcs] = head;
                costs[arcs] = cost;
                extras[arcs] = extra;
                arcs++;
            }
        }

        void takeOut(int arc) {
            for (int i = arc; i < arcs - 1; i++) {
                tails[i] = tails[i + 1];
                heads[i] = heads[i + 1];
                costs[i] = costs[i + 1];
                extras[i] = extras[i + 1];
            }
            arcs--;
        }

        int endOf(Path path) {
            return path.length == 0 ? source : heads[path.arcs[path.length - 1]];
        }

        boolean hasNode(Path path, int node) {
            for (int i = 0; i < path.length; i++) {
                if (heads[path.arcs[i]] == node) {
                    return true;
                }
            }
            return node == source;
        }

        boolean canFollow(Path path, int arc) {
            int end = endOf(path);
            return end == tails[arc] && end != target && !hasNode(path, heads[arc]);
        }

        int arcCost(int arc, int delay) {
            return costs[arc] + ((delay >> arc) & 1) * extras[arc];
        }

        int costAgainst(Path path, int delay) {
            int sum = 0;
            for (int i = 0; i < path.length; i++) {
                sum += arcCost(path.arcs[i], delay);
            }
            return sum;
        }

        int witnessOf(Path path) {
            int witness = 0;
            for (int n = 0; n < budget; n++) {
                int arc = worstArc(path, witness);
                if (arc == NONE) {
                    return witness;
                }
                witness |= 1 << arc;
            }
            return witness;
        }

        /** The arc with the greatest extra above 0 that is not in the delay yet, or NONE. */
        int worstArc(Path path, int delay) {
            int worst = NONE;
            int greatest = 0;
            for (int i = 0; i < path.length; i++) {
                int arc = path.arcs[i];
                int extra = isIn(delay, arc) ? 0 : extras[arc];
                if (extra > greatest || (extra == greatest && arc < worst)) {
                    worst = arc;
                    greatest = extra;
                }
            }
            return worst;
        }

        int worstOf(Path path) {
            return costAgainst(path, witnessOf(path));
        }

        void copyFrom(Network other) {
            nodes = other.nodes;
            source = other.source;
            target = other.target;
            budget = other.budget;
            arcs = other.arcs;
            System.arraycopy(other.tails, 0, tails, 0, MOST_ARCS);
            System.arraycopy(other.heads, 0, heads, 0, MOST_ARCS);
            System.arraycopy(other.costs, 0, costs, 0, MOST_ARCS);
            System.arraycopy(other.extras, 0, extras, 0, MOST_ARCS);
        }
    }

    /** The journey of section 5: where it was, when, and with what budget, behind 0, 1, 2, .. steps. */
    private static final class Journey {
        int steps;
        final int[] places = new int[MOST_STEPS + 1];
        final int[] times = new int[MOST_STEPS + 1];
        final int[] lefts = new int[MOST_STEPS + 1];

        void begin(Network network) {
            steps = 0;
            places[0] = network.source;
            times[0] = 0;
            lefts[0] = network.budget;
        }

        int nodeNow() {
            return places[steps];
        }

        int timeNow() {
            return times[steps];
        }

        int leftNow() {
            return lefts[steps];
        }

        boolean canGo(Network network, int arc, boolean isDelayed) {
            if (steps >= MOST_STEPS || nodeNow() == network.target) {
                return false;
            }
            return network.tails[arc] == nodeNow() && (!isDelayed || leftNow() > 0);
        }

        void go(Network network, int arc, boolean isDelayed) {
            if (steps < MOST_STEPS) {
                int extra = isDelayed ? network.extras[arc] : 0;
                places[steps + 1] = network.heads[arc];
                times[steps + 1] = timeNow() + network.costs[arc] + extra;
                lefts[steps + 1] = isDelayed ? leftNow() - 1 : leftNow();
                steps++;
            }
        }

        void copyFrom(Journey other) {
            steps = other.steps;
            System.arraycopy(other.places, 0, places, 0, MOST_STEPS + 1);
            System.arraycopy(other.times, 0, times, 0, MOST_STEPS + 1);
            System.arraycopy(other.lefts, 0, lefts, 0, MOST_STEPS + 1);
        }
    }

    /** All that a change can change. */
    private static final class State {
        final Network network;
        final Path draft;
        final Path[] told;
        int toldCount;
        final Journey journey;

        State() {
            network = new Network();
            draft = new Path();
            told = new Path[MOST_TOLD];
            for (int i = 0; i < MOST_TOLD; i++) {
                told[i] = new Path();
            }
            journey = new Journey();
        }

        void begin(int nodeCount, int first, int last) {
            network.begin(nodeCount, first, last);
            draft.clear();
            toldCount = 0;
            journey.begin(network);
        }

        boolean wasTold(Path path) {
            for (int i = 0; i < toldCount; i++) {
                if (told[i].isSame(path)) {
                    return true;
                }
            }
            return false;
        }

        boolean usesArc(int arc) {
            for (int i = 0; i < toldCount; i++) {
                if (told[i].hasArc(arc)) {
                    return true;
                }
            }
            return draft.hasArc(arc);
        }

        void takeArcOut(int arc) {
            network.takeOut(arc);
            draft.renumberBehind(arc);
            for (int i = 0; i < toldCount; i++) {
                told[i].renumberBehind(arc);
            }
        }

        void addTold(Path path) {
            if (toldCount < MOST_TOLD) {
                told[toldCount].copyFrom(path);
                toldCount++;
            }
        }

        void takeToldOut(int route) {
            for (int i = route; i < toldCount - 1; i++) {
                told[i].copyFrom(told[i + 1]);
            }
            toldCount--;
        }

        void copyFrom(State other) {
            network.copyFrom(other.network);
            draft.copyFrom(other.draft);
            for (int i = 0; i < MOST_TOLD; i++) {
                told[i].copyFrom(other.told[i]);
            }
            toldCount = other.toldCount;
            journey.copyFrom(other.journey);
        }
    }

    /** The states before the latest changes, in a ring, so that the oldest one makes room. */
    private static final class History {
        final State[] states = new State[MOST_UNDO];
        int next = 0;
        int size = 0;

        History() {
            for (int i = 0; i < MOST_UNDO; i++) {
                states[i] = new State();
            }
        }

        void keep(State state) {
            states[next].copyFrom(state);
            next = next == MOST_UNDO - 1 ? 0 : next + 1;
            size = Math.min(MOST_UNDO, size + 1);
        }

        void takeBack(State state) {
            if (size > 0) {
                next = next == 0 ? MOST_UNDO - 1 : next - 1;
                size--;
                state.copyFrom(states[next]);
            }
        }
    }

    /** The text buffer, and the reading of it (section 6). */
    private static final class TextReader {
        final byte[] text = new byte[MOST_TEXT];
        int textLength = 0;
        int end = 0;
        int place = 0;
        int errorCode = 0;
        int errorPlace = NONE;

        void addBytes(int four) {
            for (int shift = 24; shift >= 0; shift -= 8) {
                if (textLength < MOST_TEXT) {
                    text[textLength] = (byte) (four >> shift);
                    textLength++;
                }
            }
        }

        /** Returns whether the text has no error; otherwise the state holds what was read until then. */
        boolean readNetwork(int length, State state) {
            end = Math.min(length, textLength);
            place = 0;
            errorPlace = NONE;
            if (!readHead(state)) {
                return false;
            }
            skipSpaces();
            for (int n = 0; n < MOST_TEXT && place < end; n++) {
                if (!readStatement(state)) {
                    return false;
                }
                skipSpaces();
            }
            state.journey.begin(state.network);
            return true;
        }

        boolean fail(int code, int position) {
            errorCode = code;
            errorPlace = position;
            return false;
        }

        /** The byte at the present place; 0, which is no token, at the end of the text. */
        int peek() {
            return place < end ? text[place] : 0;
        }

        void skipSpaces() {
            for (int n = 0; n < MOST_TEXT && peek() == ' '; n++) {
                place++;
            }
        }

        boolean isAtDigit() {
            return peek() >= '0' && peek() <= '9';
        }

        boolean isAtLetter() {
            return peek() >= 'a' && peek() <= 'z';
        }

        /** Goes behind the word that begins here; whether there is one shows in the place. */
        void skipWord() {
            for (int n = 0; n < MOST_TEXT && isAtLetter(); n++) {
                place++;
            }
        }

        /** Whether the bytes from a start to the present place are a word. */
        boolean isWord(int start, String word) {
            if (place - start != word.length()) {
                return false;
            }
            for (int i = 0; i < word.length(); i++) {
                if (text[start + i] != word.charAt(i)) {
                    return false;
                }
            }
            return true;
        }

        /** Reads a number from low to high other than one; NONE if it fails. */
        int readNumber(int low, int high, int other) {
            skipSpaces();
            int start = place;
            if (!isAtDigit()) {
                fail(SYNTAX_ERROR, start);
                return NONE;
            }
            int number = 0;
            for (int n = 0; n < MOST_TEXT && isAtDigit(); n++) {
                // Digits without end must not wrap around into the range.
                number = Math.min(MANY, 10 * number + peek() - '0');
                place++;
            }
            if (number < low || number > high || number == other) {
                fail(VALUE_ERROR, start);
                return NONE;
            }
            return number;
        }

        boolean readSemicolon() {
            skipSpaces();
            if (peek() != ';') {
                return fail(SYNTAX_ERROR, place);
            }
            place++;
            return true;
        }

        boolean readHead(State state) {
            skipSpaces();
            int start = place;
            skipWord();
            if (!isWord(start, "net")) {
                return fail(SYNTAX_ERROR, start);
            }
            int nodes = readNumber(LEAST_NODES, MOST_NODES, NONE);
            if (nodes == NONE) {
                return false;
            }
            int source = readNumber(0, nodes - 1, NONE);
            if (source == NONE) {
                return false;
            }
            int target = readNumber(0, nodes - 1, source);
            if (target == NONE) {
                return false;
            }
            state.begin(nodes, source, target);
            return readSemicolon();
        }

        boolean readStatement(State state) {
            int start = place;
            skipWord();
            if (isWord(start, "budget")) {
                return readBudget(state.network);
            }
            if (isWord(start, "arc")) {
                return state.network.arcs < MOST_ARCS ? readArc(state.network) : fail(TOO_MANY, start);
            }
            if (isWord(start, "route")) {
                return state.toldCount < MOST_TOLD ? readRoute(state) : fail(TOO_MANY, start);
            }
            return fail(SYNTAX_ERROR, start);
        }

        boolean readBudget(Network network) {
            int budget = readNumber(0, MOST_BUDGET, NONE);
            if (budget == NONE) {
                return false;
            }
            network.budget = budget;
            return readSemicolon();
        }

        boolean readArc(Network network) {
            int tail = readNumber(0, network.nodes - 1, NONE);
            if (tail == NONE) {
                return false;
            }
            int head = readNumber(0, network.nodes - 1, tail);
            if (head == NONE) {
                return false;
            }
            int cost = readNumber(0, MOST_COST, NONE);
            if (cost == NONE) {
                return false;
            }
            int extra = readNumber(0, MOST_COST, NONE);
            if (extra == NONE) {
                return false;
            }
            network.addLast(tail, head, cost, extra);
            return readSemicolon();
        }

        /** The draft, which is empty in a network that is read, holds the route until its semicolon. */
        boolean readRoute(State state) {
            Path path = state.draft;
            skipSpaces();
            for (int n = 0; n < MOST_TEXT && (n == 0 || isAtDigit()); n++) {
                int start = place;
                int arc = readNumber(0, state.network.arcs - 1, NONE);
                if (arc == NONE) {
                    return false;
                }
                if (!state.network.canFollow(path, arc)) {
                    return fail(VALUE_ERROR, start);
                }
                path.push(arc);
                skipSpaces();
            }
            return readRouteEnd(state, path);
        }

        /** The spaces in front of the semicolon are behind us. */
        boolean readRouteEnd(State state, Path path) {
            if (peek() != ';' || state.network.endOf(path) != state.network.target) {
                return fail(SYNTAX_ERROR, place);
            }
            if (state.wasTold(path)) {
                return fail(VALUE_ERROR, place);
            }
            place++;
            state.addTold(path);
            path.clear();
            return true;
        }
    }

    /** Goes through all routes in lexicographic order. */
    private static final class RouteWalk {
        final Network network;
        final Path path = new Path();

        RouteWalk(Network network) {
            this.network = network;
        }

        void begin() {
            path.clear();
        }

        /** Makes the path the next route, the first one behind begin; returns whether there is one. */
        boolean advance() {
            int from = path.pop() + 1;
            for (int n = 0; n < MANY; n++) {
                int arc = followerFrom(from);
                if (arc != NONE) {
                    path.push(arc);
                    if (network.endOf(path) == network.target) {
                        return true;
                    }
                    from = 0;
                } else if (path.length == 0) {
                    return false;
                } else {
                    from = path.pop() + 1;
                }
            }
            return false;
        }

        /** The lowest arc from a number on that can follow in the path, or NONE. */
        int followerFrom(int from) {
            for (int arc = from; arc < network.arcs; arc++) {
                if (network.canFollow(path, arc)) {
                    return arc;
                }
            }
            return NONE;
        }

        int countRoutes() {
            int routes = 0;
            begin();
            while (routes < MANY && advance()) {
                routes++;
            }
            return routes;
        }

        int countWithin(int most) {
            int routes = 0;
            begin();
            for (int n = 0; n < MANY && advance(); n++) {
                if (network.worstOf(path) <= most) {
                    routes++;
                }
            }
            return routes;
        }
    }

    /** Compares routes against delays (section 3). */
    private static final class Judge {
        final State state;
        final Network network;
        final int[] distances = new int[MOST_NODES];
        int greatest = NONE;
        int greatestDelay = 0;

        Judge(State state) {
            this.state = state;
            this.network = state.network;
        }

        /** The shortest cost against a delay, NONE if there is no route. */
        int shortestCost(int delay) {
            Arrays.fill(distances, MANY);
            distances[network.source] = 0;
            boolean isShorter = true;
            for (int n = 0; n < MOST_NODES && isShorter; n++) {
                isShorter = false;
                for (int arc = 0; arc < network.arcs; arc++) {
                    int head = network.heads[arc];
                    int distance = distances[network.tails[arc]] + network.arcCost(arc, delay);
                    if (distance < distances[head]) {
                        distances[head] = distance;
                        isShorter = true;
                    }
                }
            }
            int least = distances[network.target];
            return least < MANY ? least : NONE;
        }

        int leastToldCost(int delay) {
            int least = MANY;
            for (int i = 0; i < state.toldCount; i++) {
                least = Math.min(least, network.costAgainst(state.told[i], delay));
            }
            return least;
        }

        int regretOf(Path path) {
            findGreatest(path, false, MANY);
            return greatest;
        }

        int regretWitnessOf(Path path) {
            findGreatest(path, false, MANY);
            return greatestDelay;
        }

        int toldRegretOf(Path path) {
            findGreatest(path, true, MANY);
            return greatest;
        }

        /**
         * Finds the greatest difference and its delay; if it is above the limit, only some difference
         * above the limit. The delays with many arcs come first, because they have the greater
         * differences, so that the limit is soon passed if it is passed at all.
         */
        void findGreatest(Path path, boolean isAmongTold, int limit) {
            greatest = NONE;
            greatestDelay = 0;
            for (int picked = (1 << path.length) - 1; picked >= 0 && greatest <= limit; picked--) {
                if (Integer.bitCount(picked) <= network.budget) {
                    int delay = path.delayAt(picked);
                    int least = isAmongTold ? leastToldCost(delay) : shortestCost(delay);
                    keepGreater(network.costAgainst(path, delay) - least, delay);
                }
            }
        }

        void keepGreater(int difference, int delay) {
            if (difference > greatest || (difference == greatest && isFirstOf(delay, greatestDelay))) {
                greatest = difference;
                greatestDelay = delay;
            }
        }

        static boolean isFirstOf(int delay, int other) {
            int arcs = Integer.bitCount(delay);
            int otherArcs = Integer.bitCount(other);
            return arcs < otherArcs || (arcs == otherArcs && delay < other);
        }

        int chooseTold() {
            int first = NONE;
            int least = MANY;
            for (int i = 0; i < state.toldCount; i++) {
                findGreatest(state.told[i], true, least);
                if (greatest < least) {
                    first = i;
                    least = greatest;
                }
            }
            return first;
        }

        boolean isBeating(Path path, Path other) {
            int witness = network.witnessOf(other);
            return network.costAgainst(path, witness) < network.costAgainst(other, witness);
        }

        int countBeating(Path path) {
            int routes = 0;
            for (int i = 0; i < state.toldCount; i++) {
                if (isBeating(state.told[i], path)) {
                    routes++;
                }
            }
            return routes;
        }
    }

    /**
     * Finds the robust and the calm route, and keeps them until the next change, because the calm one
     * is dear. Without any route both are empty paths.
     */
    private static final class Ranking {
        final Network network;
        final RouteWalk walk;
        final Judge judge;
        final Path robustPath = new Path();
        final Path calmPath = new Path();
        boolean hasRobust = false;
        boolean hasCalm = false;
        int leastRegret = MANY;
        int leastWorst = MANY;
        int leastPlain = MANY;

        Ranking(Network network, RouteWalk walk, Judge judge) {
            this.network = network;
            this.walk = walk;
            this.judge = judge;
        }

        void forgetBest() {
            hasRobust = false;
            hasCalm = false;
        }

        Path robustRoute() {
            if (!hasRobust) {
                findBest(robustPath, false);
                hasRobust = true;
            }
            return robustPath;
        }

        Path calmRoute() {
            if (!hasCalm) {
                findBest(calmPath, true);
                hasCalm = true;
            }
            return calmPath;
        }

        void findBest(Path best, boolean byRegret) {
            best.clear();
            leastRegret = MANY;
            leastWorst = MANY;
            leastPlain = MANY;
            walk.begin();
            for (int n = 0; n < MANY && walk.advance(); n++) {
                int regret = 0;
                if (byRegret) {
                    judge.findGreatest(walk.path, false, leastRegret);
                    regret = judge.greatest;
                }
                keepBetter(best, regret, network.worstOf(walk.path), network.costAgainst(walk.path, 0));
            }
        }

        /** The walk is in lexicographic order, so a route that is equal in all the rest stays behind. */
        void keepBetter(Path best, int regret, int worst, int plain) {
            if (best.length == 0 || isBetter(best, regret, worst, plain)) {
                best.copyFrom(walk.path);
                leastRegret = regret;
                leastWorst = worst;
                leastPlain = plain;
            }
        }

        boolean isBetter(Path best, int regret, int worst, int plain) {
            if (regret != leastRegret) {
                return regret < leastRegret;
            }
            if (worst != leastWorst) {
                return worst < leastWorst;
            }
            if (plain != leastPlain) {
                return plain < leastPlain;
            }
            return walk.path.length < best.length;
        }
    }

    /** The game of section 4. */
    private static final class Game {
        final Network network;
        /** The values by at most so many steps, by left budget and node. */
        final int[][] worths = new int[MOST_BUDGET + 1][MOST_NODES];
        final int[][] nextWorths = new int[MOST_BUDGET + 1][MOST_NODES];

        boolean isSolved = false;

        Game(Network network) {
            this.network = network;
        }

        void forgetValues() {
            isSolved = false;
        }

        int worthOf(int node, int left) {
            return worths[left][node];
        }

        /** The values stay until the next change. Once a further step changes nothing, no other one does. */
        void solve() {
            if (isSolved) {
                return;
            }
            isSolved = true;
            for (int left = 0; left <= MOST_BUDGET; left++) {
                Arrays.fill(worths[left], NONE);
                worths[left][network.target] = 0;
            }
            boolean isChanged = true;
            for (int n = 1; n <= MOST_GAME_STEPS && isChanged; n++) {
                isChanged = allowOneMoreStep();
            }
        }

        boolean allowOneMoreStep() {
            for (int left = 0; left <= MOST_BUDGET; left++) {
                for (int node = 0; node < network.nodes; node++) {
                    nextWorths[left][node] = leastNumber(node, left);
                }
            }
            boolean isChanged = false;
            for (int left = 0; left <= MOST_BUDGET; left++) {
                for (int node = 0; node < network.nodes; node++) {
                    isChanged = isChanged || worths[left][node] != nextWorths[left][node];
                    worths[left][node] = nextWorths[left][node];
                }
            }
            return isChanged;
        }

        int leastNumber(int node, int left) {
            if (node == network.target) {
                return 0;
            }
            int arc = bestArcOf(node, left);
            return arc == NONE ? NONE : arcNumber(arc, left);
        }

        /** The lowest of the arcs with the least number; NONE at the target too. */
        int bestArcOf(int node, int left) {
            int best = NONE;
            int least = MANY;
            for (int arc = 0; arc < network.arcs && node != network.target; arc++) {
                if (network.tails[arc] == node) {
                    int number = arcNumber(arc, left);
                    if (number != NONE && number < least) {
                        best = arc;
                        least = number;
                    }
                }
            }
            return best;
        }

        /** What belongs to an arc, NONE if its head has no value. */
        int arcNumber(int arc, int left) {
            int head = network.heads[arc];
            int cost = network.costs[arc];
            if (worths[left][head] == NONE) {
                return NONE;
            }
            int undelayed = cost + worths[left][head];
            if (left == 0) {
                return undelayed;
            }
            int delayed = cost + network.extras[arc] + worths[left - 1][head];
            return delayed > undelayed ? delayed : undelayed;
        }
    }
}
