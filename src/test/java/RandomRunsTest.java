import java.util.Random;
import java.util.function.IntSupplier;

/**
 * Long runs of calls, drawn from fixed seeds, on the program and on the model: all answers must agree. No
 * object gets more than 512 calls, since what it answers behind them is free.
 */
public final class RandomRunsTest {
    private static final int RUNS = 1500;
    /** A draw makes at most 33 calls. */
    private static final int LAST_DRAW = Player.MOST_CALLS - 33;
    private final Checks checks = new Checks();
    private Random random;
    private RouteBudget x;
    private Model model;
    private String told;
    private int calls;

    public static void main(String[] args) {
        new RandomRunsTest().runAll();
    }

    private void runAll() {
        for (int seed = 0; seed < RUNS; seed++) {
            random = new Random(seed);
            x = new RouteBudget();
            model = new Model();
            calls = 0;
            while (calls < LAST_DRAW) {
                told = "seed " + seed + ", call " + calls + ": ";
                // A big network asks for much of the model, so runs differ in how often it is asked.
                oneCall(seed % 3 == 0 ? 34 : 22);
            }
        }
        checks.end();
    }

    private void same(String call, IntSupplier program, IntSupplier due) {
        calls++;
        if (calls > Player.MOST_CALLS) {
            throw new Error("the test makes more than 512 calls on one object");
        }
        checks.same(told + call, answer(program), answer(due));
    }

    private static String answer(IntSupplier run) {
        try {
            return String.valueOf(run.getAsInt());
        } catch (RuntimeException e) {
            return "throws." + e.getClass().getSimpleName();
        }
    }

    private int upTo(int most) {
        return random.nextInt(most + 1);
    }

    /** Mostly 0 to most, sometimes just outside, seldom far outside. */
    private int about(int most) {
        int kind = upTo(39);
        if (kind == 0) {
            return -1;
        }
        if (kind == 1) {
            return most + 1;
        }
        if (kind == 2) {
            return random.nextInt();
        }
        return upTo(Math.max(0, most));
    }

    private int fewOrMany() {
        return upTo(3) == 0 ? 0 : upTo(2) == 0 ? about(99) : about(9);
    }

    private int node() {
        return about(model.nodeCount() - 1);
    }

    private int arc() {
        return about(model.arcCount() - 1);
    }

    private int route() {
        return about(model.toldCount() - 1);
    }

    /** An arc that leaves a node, if drawing a few times finds one. */
    private int arcFrom(int node) {
        int arc = arc();
        for (int i = 0; i < 12; i++) {
            if (arc >= 0 && arc < model.arcCount() && model.tailOf(arc) == node) {
                return arc;
            }
            arc = arc();
        }
        return arc;
    }

    private void oneCall(int kinds) {
        int kind = random.nextInt(kinds);
        int a = arc();
        int r = route();
        int s = route();
        int what = about(7);
        switch (kind) {
            case 0 -> loadText();
            case 1 -> {
                int most = about(600);
                same("load(" + most + ")", () -> x.load(most), () -> model.load(most));
            }
            case 2 -> {
                int tail = node();
                int head = node();
                int cost = fewOrMany();
                int extra = fewOrMany();
                same("addArc(" + tail + "," + head + "," + cost + "," + extra + ")",
                        () -> x.addArc(tail, head, cost, extra), () -> model.addArc(tail, head, cost, extra));
            }
            case 3 -> same("removeArc(" + a + ")", () -> x.removeArc(a), () -> model.removeArc(a));
            case 4 -> {
                int cost = fewOrMany();
                int extra = fewOrMany();
                same("setArc(" + a + "," + cost + "," + extra + ")", () -> x.setArc(a, cost, extra),
                        () -> model.setArc(a, cost, extra));
            }
            case 5 -> {
                int budget = about(6);
                same("setBudget(" + budget + ")", () -> x.setBudget(budget), () -> model.setBudget(budget));
            }
            case 6, 7, 8 -> {
                int arc = arcFrom(model.nodeOfDraft());
                same("draft(" + arc + ")", () -> x.draft(arc), () -> model.draft(arc));
            }
            case 9 -> same("drop()", x::drop, model::drop);
            case 10, 11 -> {
                same("reason()", x::reason, model::reason);
                same("tell()", x::tell, model::tell);
            }
            case 12 -> same("forget(" + r + ")", () -> x.forget(r), () -> model.forget(r));
            case 13, 14, 15 -> {
                int arc = arcFrom(model.nodeOfJourney());
                boolean isDelayed = random.nextBoolean();
                same("step(" + arc + "," + isDelayed + ")", () -> x.step(arc, isDelayed),
                        () -> model.step(arc, isDelayed));
                same("promise()", x::promise, model::promise);
                int step = about(20);
                same("grief(" + step + ")", () -> x.grief(step), () -> model.grief(step));
            }
            case 16 -> {
                if (upTo(3) == 0) {
                    same("restart()", x::restart, model::restart);
                }
            }
            case 17, 18 -> same("undo()", x::undo, model::undo);
            case 19 -> same("arc(" + a + "," + what + ")", () -> x.arc(a, what), () -> model.arc(a, what));
            case 20 -> {
                same("writeRoute(" + r + ")", () -> x.writeRoute(r), () -> model.writeRoute(r));
                int index = about(14);
                same("writtenByte(" + index + ")", () -> x.writtenByte(index), () -> model.writtenByte(index));
            }
            case 21 -> {
                int number = about(11);
                same("count(" + number + ")", () -> x.count(number), () -> model.count(number));
            }
            default -> ask(kind, r, s, what);
        }
    }

    private void ask(int kind, int r, int s, int what) {
        int delay = random.nextInt();
        int node = node();
        int left = about(6);
        boolean isCalm = random.nextBoolean();
        switch (kind) {
            case 22 -> same("routeArc(" + r + "," + what + ")", () -> x.routeArc(r, what),
                    () -> model.routeArc(r, what));
            case 23, 24 -> same("route(" + r + "," + what + ")", () -> x.route(r, what), () -> model.route(r, what));
            case 25 -> same("cost(" + r + "," + delay + ")", () -> x.cost(r, delay), () -> model.cost(r, delay));
            case 26 -> same("chosen()", x::chosen, model::chosen);
            case 27 -> same("beats(" + r + "," + s + ")", () -> x.beats(r, s) ? 1 : 0,
                    () -> model.beats(r, s) ? 1 : 0);
            case 28 -> same("strain(" + r + ")", () -> Float.floatToIntBits(x.strain(r)),
                    () -> Float.floatToIntBits(model.strain(r)));
            case 29 -> same("shortest(" + delay + ")", () -> x.shortest(delay), () -> model.shortest(delay));
            case 30 -> {
                int number = about(5);
                same("robust or calm " + isCalm + " (" + number + ")",
                        () -> isCalm ? x.calm(number) : x.robust(number), () -> model.bestNumber(isCalm, number));
            }
            case 31 -> same("bestArc(" + isCalm + "," + what + ")", () -> x.bestArc(isCalm, what),
                    () -> model.bestArc(isCalm, what));
            case 32 -> {
                int most = upTo(3) == 0 ? random.nextInt() : upTo(150);
                same("within(" + most + ")", () -> x.within(most), () -> model.within(most));
            }
            default -> {
                same("value(" + node + "," + left + ")", () -> x.value(node, left), () -> model.value(node, left));
                same("bestNext(" + node + "," + left + ")", () -> x.bestNext(node, left),
                        () -> model.bestNext(node, left));
            }
        }
    }

    private void loadText() {
        String text = RandomText.draw(random);
        for (int i = 0; i < text.length(); i += 20) {
            int[] words = new int[5];
            for (int j = 0; j < 20; j++) {
                int sign = i + j < text.length() ? text.charAt(i + j) & 255 : ' ';
                words[j / 4] = words[j / 4] << 8 | sign;
            }
            same("append", () -> x.append(words[0], words[1], words[2], words[3], words[4]),
                    () -> model.append(words));
        }
        int length = upTo(19) == 0 ? about(600) : text.length();
        told = told + text + " ";
        same("load(" + length + ")", () -> x.load(length), () -> model.load(length));
        same("errorPosition()", x::errorPosition, model::errorPosition);
    }
}
