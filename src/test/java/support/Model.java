import java.util.ArrayDeque;
import java.util.ArrayList;
import java.util.Arrays;
import java.util.Deque;
import java.util.List;
import java.util.NoSuchElementException;

/**
 * A second program for the document, slow and in the words of the document, with nothing in common
 * with the first one: RandomRunsTest compares the two.
 */
final class Model {
    /** An arc: tail, head, cost, extra. A route: the list of its arcs' numbers. */
    private static final class Net {
        int nodes = 2;
        int source = 0;
        int target = 1;
        int budget = 2;
        List<int[]> arcs = new ArrayList<>();
        List<List<Integer>> told = new ArrayList<>();
        List<Integer> draft = new ArrayList<>();
        /** The steps: arc, and 1 if it was delayed. */
        List<int[]> steps = new ArrayList<>();

        Net copy() {
            Net copy = new Net();
            copy.nodes = nodes;
            copy.source = source;
            copy.target = target;
            copy.budget = budget;
            for (int[] arc : arcs) {
                copy.arcs.add(arc.clone());
            }
            for (List<Integer> route : told) {
                copy.told.add(new ArrayList<>(route));
            }
            copy.draft.addAll(draft);
            copy.steps.addAll(steps);
            return copy;
        }
    }

    private static final class TextError extends RuntimeException {
        private static final long serialVersionUID = 1L;
        final int code;
        final int position;

        TextError(int code, int position) {
            this.code = code;
            this.position = position;
        }
    }

    /** A token: a word, a number, a semicolon, or (kind '?') a byte that is none; kind '$' is the end. */
    private static final class Token {
        final char kind;
        final String text;
        final int position;

        Token(char kind, String text, int position) {
            this.kind = kind;
            this.text = text;
            this.position = position;
        }
    }

    private Net net = new Net();
    private final Deque<Net> changes = new ArrayDeque<>();
    private final StringBuilder buffer = new StringBuilder();
    private int errorPosition = -1;
    private String written = "";
    private final List<Token> tokens = new ArrayList<>();
    private int nextToken = 0;

    int append(int... words) {
        if (buffer.length() > 580) {
            throw new IllegalStateException();
        }
        for (int word : words) {
            for (int i = 3; i >= 0; i--) {
                buffer.append((char) (word >>> 8 * i & 255));
            }
        }
        return buffer.length();
    }

    int load(int length) {
        if (length < 0 || length > buffer.length()) {
            throw new IllegalArgumentException();
        }
        String text = buffer.substring(0, length);
        buffer.setLength(0);
        try {
            Net read = read(text);
            errorPosition = -1;
            change();
            net = read;
            return net.arcs.size();
        } catch (TextError e) {
            errorPosition = e.position;
            return e.code;
        }
    }

    private void cut(String text) {
        tokens.clear();
        nextToken = 0;
        int i = 0;
        while (i < text.length()) {
            int from = i;
            char c = text.charAt(i);
            i++;
            if (c >= 'a' && c <= 'z') {
                while (i < text.length() && text.charAt(i) >= 'a' && text.charAt(i) <= 'z') {
                    i++;
                }
                tokens.add(new Token('a', text.substring(from, i), from));
            } else if (c >= '0' && c <= '9') {
                while (i < text.length() && text.charAt(i) >= '0' && text.charAt(i) <= '9') {
                    i++;
                }
                tokens.add(new Token('0', text.substring(from, i), from));
            } else if (c != ' ') {
                tokens.add(new Token(c == ';' ? ';' : '?', "", from));
            }
        }
        tokens.add(new Token('$', "", text.length()));
    }

    private Token take(char kind) {
        Token token = tokens.get(nextToken);
        if (token.kind != kind) {
            throw new TextError(-2, token.position);
        }
        nextToken++;
        return token;
    }

    private int takeNumber(int low, int high, int other) {
        Token token = take('0');
        java.math.BigInteger number = new java.math.BigInteger(token.text);
        if (number.compareTo(java.math.BigInteger.valueOf(low)) < 0
                || number.compareTo(java.math.BigInteger.valueOf(high)) > 0 || number.intValue() == other) {
            throw new TextError(-3, token.position);
        }
        return number.intValue();
    }

    private Net read(String text) {
        cut(text);
        Net read = new Net();
        Token first = take('a');
        if (!first.text.equals("net")) {
            throw new TextError(-2, first.position);
        }
        read.nodes = takeNumber(2, 8, -1);
        read.source = takeNumber(0, read.nodes - 1, -1);
        read.target = takeNumber(0, read.nodes - 1, read.source);
        take(';');
        while (tokens.get(nextToken).kind != '$') {
            Token word = take('a');
            switch (word.text) {
                case "budget" -> {
                    read.budget = takeNumber(0, 6, -1);
                    take(';');
                }
                case "arc" -> readArc(read, word);
                case "route" -> readRoute(read, word);
                default -> throw new TextError(-2, word.position);
            }
        }
        return read;
    }

    private void readArc(Net read, Token word) {
        if (read.arcs.size() == 16) {
            throw new TextError(-4, word.position);
        }
        int tail = takeNumber(0, read.nodes - 1, -1);
        int head = takeNumber(0, read.nodes - 1, tail);
        int cost = takeNumber(0, 99, -1);
        int extra = takeNumber(0, 99, -1);
        read.arcs.add(new int[] {tail, head, cost, extra});
        take(';');
    }

    private void readRoute(Net read, Token word) {
        if (read.told.size() == 6) {
            throw new TextError(-4, word.position);
        }
        List<Integer> route = new ArrayList<>();
        do {
            int position = tokens.get(nextToken).position;
            int arc = takeNumber(0, read.arcs.size() - 1, -1);
            if (!goesOn(read, route, arc)) {
                throw new TextError(-3, position);
            }
            route.add(arc);
        } while (tokens.get(nextToken).kind == '0');
        int position = take(';').position;
        List<Integer> nodes = nodesOf(read, route);
        if (nodes.get(nodes.size() - 1) != read.target) {
            throw new TextError(-2, position);
        }
        if (read.told.contains(route)) {
            throw new TextError(-3, position);
        }
        read.told.add(route);
    }

    private static List<Integer> nodesOf(Net net, List<Integer> route) {
        List<Integer> nodes = new ArrayList<>();
        nodes.add(net.source);
        for (int arc : route) {
            nodes.add(net.arcs.get(arc)[1]);
        }
        return nodes;
    }

    private static boolean goesOn(Net net, List<Integer> route, int arc) {
        List<Integer> nodes = nodesOf(net, route);
        int end = nodes.get(nodes.size() - 1);
        return end != net.target && net.arcs.get(arc)[0] == end && !nodes.contains(net.arcs.get(arc)[1]);
    }

    int errorPosition() {
        return errorPosition;
    }

    private void change() {
        changes.addLast(net.copy());
        if (changes.size() > 8) {
            changes.removeFirst();
        }
    }

    private void needNode(int node) {
        if (node < 0 || node >= net.nodes) {
            throw new IndexOutOfBoundsException();
        }
    }

    private void needArc(int arc) {
        if (arc < 0 || arc >= net.arcs.size()) {
            throw new IndexOutOfBoundsException();
        }
    }

    private void needRoute(int route) {
        if (route < 0 || route >= net.told.size()) {
            throw new IndexOutOfBoundsException();
        }
    }

    private static void needRange(int number, int high) {
        if (number < 0 || number > high) {
            throw new IllegalArgumentException();
        }
    }

    int count(int what) {
        needRange(what, 11);
        int[] journey = journeyAfter(net.steps.size());
        return new int[] {net.nodes, net.arcs.size(), net.source, net.target, net.budget, net.told.size(),
            net.draft.size(), allRoutes().size(), journey[0], journey[1], journey[2], net.steps.size()}[what];
    }

    int arc(int arc, int what) {
        needArc(arc);
        needRange(what, 3);
        return net.arcs.get(arc)[what];
    }

    int addArc(int tail, int head, int cost, int extra) {
        needNode(tail);
        needNode(head);
        if (tail == head) {
            throw new IllegalArgumentException();
        }
        needRange(cost, 99);
        needRange(extra, 99);
        if (net.arcs.size() == 16) {
            throw new IllegalStateException();
        }
        change();
        net.arcs.add(new int[] {tail, head, cost, extra});
        net.steps.clear();
        return net.arcs.size() - 1;
    }

    int removeArc(int arc) {
        needArc(arc);
        if (net.draft.contains(arc) || net.told.stream().anyMatch(route -> route.contains(arc))) {
            throw new IllegalStateException();
        }
        change();
        net.arcs.remove(arc);
        net.draft.replaceAll(a -> a > arc ? a - 1 : a);
        net.told.forEach(route -> route.replaceAll(a -> a > arc ? a - 1 : a));
        net.steps.clear();
        return net.arcs.size();
    }

    int setArc(int arc, int cost, int extra) {
        needArc(arc);
        needRange(cost, 99);
        needRange(extra, 99);
        change();
        int[] changed = net.arcs.get(arc);
        int before = 100 * changed[2] + changed[3];
        changed[2] = cost;
        changed[3] = extra;
        net.steps.clear();
        return before;
    }

    int setBudget(int budget) {
        needRange(budget, 6);
        change();
        int before = net.budget;
        net.budget = budget;
        net.steps.clear();
        return before;
    }

    private int draftEnd() {
        List<Integer> nodes = nodesOf(net, net.draft);
        return nodes.get(nodes.size() - 1);
    }

    int draft(int arc) {
        needArc(arc);
        if (!goesOn(net, net.draft, arc)) {
            throw new IllegalStateException();
        }
        change();
        net.draft.add(arc);
        return draftEnd();
    }

    int drop() {
        if (net.draft.isEmpty()) {
            throw new IllegalStateException();
        }
        change();
        net.draft.remove(net.draft.size() - 1);
        return net.draft.size();
    }

    int reason() {
        return draftEnd() != net.target ? 1 : net.told.contains(net.draft) ? 2 : net.told.size() == 6 ? 3 : 0;
    }

    int tell() {
        if (reason() != 0) {
            throw new IllegalStateException();
        }
        change();
        net.told.add(net.draft);
        net.draft = new ArrayList<>();
        return net.told.size() - 1;
    }

    int forget(int route) {
        needRoute(route);
        change();
        net.told.remove(route);
        return net.told.size();
    }

    int routeArc(int route, int index) {
        needRoute(route);
        if (index < 0 || index >= net.told.get(route).size()) {
            throw new IndexOutOfBoundsException();
        }
        return net.told.get(route).get(index);
    }

    int route(int route, int what) {
        needRoute(route);
        needRange(what, 7);
        List<Integer> arcs = net.told.get(route);
        if (what == 6) {
            return regret(arcs, net.told)[0];
        }
        if (what == 7) {
            int beating = 0;
            for (int other = 0; other < net.told.size(); other++) {
                beating += beats(other, route) ? 1 : 0;
            }
            return beating;
        }
        return number(arcs, what);
    }

    private int number(List<Integer> route, int what) {
        return switch (what) {
            case 0 -> route.size();
            case 1 -> costOf(route, 0);
            case 2 -> costOf(route, witness(route));
            case 3 -> witness(route);
            case 4 -> regret(route, allRoutes())[0];
            default -> regret(route, allRoutes())[1];
        };
    }

    private int costOf(List<Integer> route, int delay) {
        int sum = 0;
        for (int arc : route) {
            sum += net.arcs.get(arc)[2] + ((delay >>> arc & 1) != 0 ? net.arcs.get(arc)[3] : 0);
        }
        return sum;
    }

    private int witness(List<Integer> route) {
        List<Integer> sorted = new ArrayList<>(route);
        sorted.sort((a, b) -> net.arcs.get(a)[3] != net.arcs.get(b)[3]
                ? net.arcs.get(b)[3] - net.arcs.get(a)[3] : a - b);
        int mask = 0;
        for (int i = 0; i < sorted.size() && i < net.budget; i++) {
            mask |= net.arcs.get(sorted.get(i))[3] > 0 ? 1 << sorted.get(i) : 0;
        }
        return mask;
    }

    /** The regret of a route among some routes, and its witness. */
    private int[] regret(List<Integer> route, List<List<Integer>> among) {
        int all = 0;
        for (int arc : route) {
            all |= 1 << arc;
        }
        int greatest = -1;
        int first = -1;
        for (int delay = 0; delay <= all; delay++) {
            if ((delay & ~all) == 0 && Integer.bitCount(delay) <= net.budget) {
                int difference = costOf(route, delay) - least(among, delay);
                if (difference > greatest
                        || difference == greatest && Integer.bitCount(delay) < Integer.bitCount(first)) {
                    greatest = difference;
                    first = delay;
                }
            }
        }
        return new int[] {greatest, first};
    }

    private int least(List<List<Integer>> among, int delay) {
        int least = 1 << 30;
        for (List<Integer> route : among) {
            least = Math.min(least, costOf(route, delay));
        }
        return least;
    }

    int cost(int route, int delay) {
        needRoute(route);
        return costOf(net.told.get(route), delay);
    }

    int chosen() {
        if (net.told.isEmpty()) {
            throw new NoSuchElementException();
        }
        int chosen = 0;
        for (int route = 1; route < net.told.size(); route++) {
            chosen = route(route, 6) < route(chosen, 6) ? route : chosen;
        }
        return chosen;
    }

    boolean beats(int route, int other) {
        needRoute(route);
        needRoute(other);
        return route != other && cost(route, route(other, 3)) < route(other, 2);
    }

    float strain(int route) {
        needRoute(route);
        return route(route, 1) == 0 ? 1.0f : (float) route(route, 2) / (float) route(route, 1);
    }

    private List<List<Integer>> allRoutes() {
        List<List<Integer>> all = new ArrayList<>();
        collect(new ArrayList<>(), all);
        return all;
    }

    private void collect(List<Integer> begun, List<List<Integer>> all) {
        List<Integer> nodes = nodesOf(net, begun);
        if (nodes.get(nodes.size() - 1) == net.target) {
            all.add(new ArrayList<>(begun));
            return;
        }
        for (int arc = 0; arc < net.arcs.size(); arc++) {
            if (goesOn(net, begun, arc)) {
                begun.add(arc);
                collect(begun, all);
                begun.remove(begun.size() - 1);
            }
        }
    }

    int shortest(int delay) {
        if (allRoutes().isEmpty()) {
            throw new NoSuchElementException();
        }
        return least(allRoutes(), delay);
    }

    private List<Integer> best(boolean calm) {
        List<List<Integer>> all = allRoutes();
        int[][] keys = new int[all.size()][];
        for (int i = 0; i < keys.length; i++) {
            List<Integer> route = all.get(i);
            keys[i] = new int[] {calm ? regret(route, all)[0] : 0, number(route, 2), number(route, 1),
                route.size(), i};
        }
        if (keys.length == 0) {
            return new ArrayList<>();
        }
        Arrays.sort(keys, Arrays::compare);
        return all.get(keys[0][4]);
    }

    int bestNumber(boolean calm, int what) {
        needRange(what, 5);
        List<Integer> best = best(calm);
        if (best.isEmpty()) {
            throw new NoSuchElementException();
        }
        return number(best, what);
    }

    int bestArc(boolean calm, int index) {
        List<Integer> best = best(calm);
        if (index < 0 || index >= best.size()) {
            throw new IndexOutOfBoundsException();
        }
        return best.get(index);
    }

    int within(int most) {
        int count = 0;
        for (List<Integer> route : allRoutes()) {
            count += number(route, 2) <= most ? 1 : 0;
        }
        return count;
    }

    /** The values by at most n steps, by node, for every left budget, for n = 64. */
    private int[][] values() {
        int[][] values = new int[7][net.nodes];
        for (int n = 0; n <= 64; n++) {
            int[][] fewer = values;
            values = new int[7][net.nodes];
            for (int left = 0; left <= 6; left++) {
                for (int node = 0; node < net.nodes; node++) {
                    values[left][node] = node == net.target ? 0 : -1;
                    for (int arc = 0; arc < net.arcs.size() && n > 0 && node != net.target; arc++) {
                        int belongs = belongs(arc, node, left, fewer);
                        if (belongs >= 0 && (values[left][node] < 0 || belongs < values[left][node])) {
                            values[left][node] = belongs;
                        }
                    }
                }
            }
        }
        return values;
    }

    private int belongs(int number, int node, int left, int[][] values) {
        int[] arc = net.arcs.get(number);
        if (arc[0] != node || values[left][arc[1]] < 0) {
            return -1;
        }
        int plain = arc[2] + values[left][arc[1]];
        int delayed = left > 0 ? arc[2] + arc[3] + values[left - 1][arc[1]] : 0;
        return Math.max(plain, delayed);
    }

    int value(int node, int left) {
        needNode(node);
        needRange(left, 6);
        return values()[left][node];
    }

    int bestNext(int node, int left) {
        needNode(node);
        needRange(left, 6);
        int[][] values = values();
        for (int arc = 0; arc < net.arcs.size() && node != net.target && values[left][node] >= 0; arc++) {
            if (belongs(arc, node, left, values) == values[left][node]) {
                return arc;
            }
        }
        return -1;
    }

    /** Node, time and left budget after some steps. */
    private int[] journeyAfter(int steps) {
        int[] journey = {net.source, 0, net.budget};
        for (int[] step : net.steps.subList(0, steps)) {
            int[] arc = net.arcs.get(step[0]);
            journey[0] = arc[1];
            journey[1] += arc[2] + step[1] * arc[3];
            journey[2] -= step[1];
        }
        return journey;
    }

    int step(int arc, boolean isDelayed) {
        needArc(arc);
        int[] journey = journeyAfter(net.steps.size());
        if (journey[0] == net.target || net.steps.size() == 20 || net.arcs.get(arc)[0] != journey[0]
                || isDelayed && journey[2] == 0) {
            throw new IllegalStateException();
        }
        change();
        net.steps.add(new int[] {arc, isDelayed ? 1 : 0});
        return journeyAfter(net.steps.size())[1];
    }

    int restart() {
        change();
        int steps = net.steps.size();
        net.steps.clear();
        return steps;
    }

    private int promiseAfter(int steps) {
        int[] journey = journeyAfter(steps);
        int value = values()[journey[2]][journey[0]];
        if (value < 0) {
            throw new NoSuchElementException();
        }
        return journey[1] + value;
    }

    int promise() {
        return promiseAfter(net.steps.size());
    }

    int grief(int step) {
        if (step < 0 || step >= net.steps.size()) {
            throw new IndexOutOfBoundsException();
        }
        return promiseAfter(step + 1) - promiseAfter(step);
    }

    int writeRoute(int route) {
        needRoute(route);
        StringBuilder text = new StringBuilder().append(net.source);
        for (int arc : net.told.get(route)) {
            text.append((route(route, 3) >> arc & 1) != 0 ? "+" : "-").append(net.arcs.get(arc)[1]);
        }
        written = text.toString();
        return written.length();
    }

    int writtenByte(int index) {
        if (index < 0 || index >= written.length()) {
            throw new IndexOutOfBoundsException();
        }
        return written.charAt(index);
    }

    int undo() {
        if (changes.isEmpty()) {
            throw new IllegalStateException();
        }
        net = changes.removeLast();
        return changes.size();
    }

    /** For the driver: what a likely next call needs to know. */
    int nodeOfDraft() {
        return draftEnd();
    }

    int nodeOfJourney() {
        return journeyAfter(net.steps.size())[0];
    }

    int tailOf(int arc) {
        return net.arcs.get(arc)[0];
    }

    int nodeCount() {
        return net.nodes;
    }

    int arcCount() {
        return net.arcs.size();
    }

    int toldCount() {
        return net.told.size();
    }
}
