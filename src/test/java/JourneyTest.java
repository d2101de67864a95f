import java.util.NoSuchElementException;

/** Promises 27 to 32: value, bestNext, step, restart, promise and grief. */
public final class JourneyTest {
    private static final Checks CHECKS = new Checks();

    /** From 4 nothing leads to the target 3, which has an arc of its own. */
    private static final String NET = "net 5 0 3;budget 1;arc 0 1 2 5;arc 1 3 2 0;arc 0 2 3 1;arc 2 3 3 2;arc 0 3 9 0;"
            + "arc 1 2 0 4;arc 0 4 1 1;arc 3 0 1 1;";
    private static final String CIRCLE = "net 3 0 2;budget 2;arc 0 1 1 2;arc 1 0 3 4;arc 1 2 5 6;";

    public static void main(String[] args) {
        promise27Value();
        promise27Circles();
        promise27ManySteps();
        promise28BestNext();
        promise29Step();
        promise29StepRefuses();
        promise29TwentySteps();
        promise30Restart();
        promise31Promise();
        promise32Grief();
        CHECKS.end();
    }

    private static void values(RouteBudget x, int node, int... due) {
        for (int left = 0; left < due.length; left++) {
            CHECKS.same("value(" + node + ", " + left + ")", x.value(node, left), due[left]);
        }
    }

    private static void promise27Value() {
        RouteBudget x = Checks.loaded(NET);
        values(x, 3, 0, 0, 0, 0, 0, 0, 0);
        values(x, 4, -1, -1, -1, -1, -1, -1, -1);
        values(x, 2, 3, 5, 5, 5, 5, 5, 5);
        values(x, 1, 2, 2, 2, 2, 2, 2, 2);
        // Over arc 0: 4, 9, 9; over arc 2: 6, 8, 9; over arc 4: 9.
        values(x, 0, 4, 8, 9, 9, 9, 9, 9);
        CHECKS.refuses(x, "value(5, 0)", IndexOutOfBoundsException.class, () -> x.value(5, 0));
        CHECKS.refuses(x, "value(-1, 0)", IndexOutOfBoundsException.class, () -> x.value(-1, 0));
        CHECKS.refuses(x, "value(0, 7)", IllegalArgumentException.class, () -> x.value(0, 7));
        CHECKS.refuses(x, "value(0, -1)", IllegalArgumentException.class, () -> x.value(0, -1));
        CHECKS.refuses(x, "value(5, 7)", IndexOutOfBoundsException.class, () -> x.value(5, 7));
        x.setArc(4, 3, 3);
        // Over arc 4: 3, 6, 6.
        values(x, 0, 3, 6, 6, 6, 6, 6, 6);
        x.undo();
        values(x, 0, 4, 8, 9, 9, 9, 9, 9);
        values(new RouteBudget(), 0, -1, -1);
        values(new RouteBudget(), 1, 0, 0);
        CHECKS.same("the whole budget does not matter", Checks.loaded(NET + "budget 0;").value(0, 1), 8);
    }

    private static void promise27Circles() {
        // A circle that costs nothing does not help, and does no harm.
        RouteBudget x = Checks.loaded("net 4 0 3;arc 0 1 0 0;arc 1 0 0 0;arc 1 2 0 9;arc 2 1 0 0;arc 2 3 1 4;");
        values(x, 0, 1, 10, 14, 14, 14, 14, 14);
        // Nothing of a value is left in a circle when its way out is gone.
        RouteBudget w = Checks.loaded("net 3 0 2;arc 0 1 0 0;arc 1 0 0 0;arc 1 2 5 0;");
        values(w, 0, 5, 5, 5, 5, 5, 5, 5);
        w.removeArc(2);
        values(w, 0, -1, -1, -1, -1, -1, -1, -1);
        values(w, 1, -1, -1, -1, -1, -1, -1, -1);
        // Turning back is better than going on when the delay on the way has been spent.
        RouteBudget y = Checks.loaded("net 3 0 2;arc 0 1 1 50;arc 1 2 1 0;arc 1 0 0 0;arc 0 2 9 0;");
        values(y, 0, 2, 9, 9);
        values(y, 1, 1, 1, 1);
        RouteBudget z = Checks.loaded("net 3 0 2;arc 0 1 0 0;arc 1 2 1 60;arc 1 0 2 3;arc 0 2 20 0;");
        // At 1 with a left budget: over arc 1 it is 61, over the way back 2 + 20 or 5 and the value of 0 with less.
        values(z, 1, 1, 22, 25, 25, 25, 25, 25);
        values(z, 0, 1, 20, 20, 20, 20, 20, 20);
    }

    private static void promise27ManySteps() {
        RouteBudget x = Checks.loaded("net 8 0 7;budget 6;arc 6 7 1 1;arc 5 6 1 2;arc 4 5 1 3;arc 3 4 1 4;arc 2 3 1 5;"
                + "arc 1 2 1 6;arc 0 1 1 7;");
        values(x, 0, 7, 14, 20, 25, 29, 32, 34);
        values(x, 5, 2, 4, 5, 5, 5, 5, 5);
    }

    private static void nexts(RouteBudget x, int node, int... due) {
        for (int left = 0; left < due.length; left++) {
            CHECKS.same("bestNext(" + node + ", " + left + ")", x.bestNext(node, left), due[left]);
        }
    }

    private static void promise28BestNext() {
        RouteBudget x = Checks.loaded(NET);
        nexts(x, 3, -1, -1, -1, -1, -1, -1, -1);
        nexts(x, 4, -1, -1, -1, -1, -1, -1, -1);
        nexts(x, 2, 3, 3, 3, 3, 3, 3, 3);
        nexts(x, 1, 1, 1, 1, 1, 1, 1, 1);
        // With two left all of 0, 2 and 4 have the number 9: the lowest.
        nexts(x, 0, 0, 2, 0, 0, 0, 0, 0);
        CHECKS.refuses(x, "bestNext(5, 0)", IndexOutOfBoundsException.class, () -> x.bestNext(5, 0));
        CHECKS.refuses(x, "bestNext(-1, 0)", IndexOutOfBoundsException.class, () -> x.bestNext(-1, 0));
        CHECKS.refuses(x, "bestNext(0, 7)", IllegalArgumentException.class, () -> x.bestNext(0, 7));
        CHECKS.refuses(x, "bestNext(0, -1)", IllegalArgumentException.class, () -> x.bestNext(0, -1));
        CHECKS.refuses(x, "bestNext(-1, 7)", IndexOutOfBoundsException.class, () -> x.bestNext(-1, 7));
        // The circle 0 1 costs nothing, so that the arc back from 1 has the number of the value, and is lower.
        RouteBudget y = Checks.loaded("net 3 0 2;arc 0 1 0 0;arc 1 0 0 0;arc 1 2 5 0;");
        nexts(y, 1, 1, 1);
        nexts(y, 0, 0, 0);
        x.setArc(4, 0, 0);
        nexts(x, 0, 4, 4, 4);
    }

    private static void promise29Step() {
        RouteBudget x = Checks.loaded(NET);
        CHECKS.same("step(0, true)", x.step(0, true), 7);
        CHECKS.same("node", x.count(8), 1);
        CHECKS.same("time", x.count(9), 7);
        CHECKS.same("left budget", x.count(10), 0);
        CHECKS.same("budget", x.count(4), 1);
        CHECKS.same("steps", x.count(11), 1);
        CHECKS.same("step(5, false)", x.step(5, false), 7);
        CHECKS.same("step(3, false)", x.step(3, false), 10);
        CHECKS.same("node", x.count(8), 3);
        CHECKS.same("steps", x.count(11), 3);
        CHECKS.same("undo", x.undo(), 3);
        CHECKS.same("node", x.count(8), 2);
        CHECKS.same("time", x.count(9), 7);
        CHECKS.same("undo", x.undo(), 2);
        CHECKS.same("undo", x.undo(), 1);
        CHECKS.same("left budget", x.count(10), 1);
        x.step(0, true);
        x.restart();
        CHECKS.same("step(0, false)", x.step(0, false), 2);
        x.step(5, false);
        x.undo();
        x.undo();
        CHECKS.same("undo of restart", x.undo(), 2);
        CHECKS.same("time", x.count(9), 7);
        CHECKS.same("left budget", x.count(10), 0);
        RouteBudget y = Checks.loaded("net 2 0 1;arc 0 1 4 0;");
        CHECKS.same("a delay without extra", y.step(0, true), 4);
        CHECKS.same("costs budget all the same", y.count(10), 1);
    }

    private static void promise29StepRefuses() {
        RouteBudget x = Checks.loaded(NET);
        CHECKS.refuses(x, "step(8)", IndexOutOfBoundsException.class, () -> x.step(8, false));
        CHECKS.refuses(x, "step(-1)", IndexOutOfBoundsException.class, () -> x.step(-1, true));
        CHECKS.refuses(x, "another node's arc", IllegalStateException.class, () -> x.step(1, false));
        x.step(0, true);
        CHECKS.refuses(x, "no budget left", IllegalStateException.class, () -> x.step(1, true));
        CHECKS.refuses(x, "the source's arc", IllegalStateException.class, () -> x.step(0, false));
        x.step(1, false);
        CHECKS.refuses(x, "at the target", IllegalStateException.class, () -> x.step(7, false));
        CHECKS.refuses(x, "at the target, no arc", IndexOutOfBoundsException.class, () -> x.step(9, false));
        CHECKS.same("undo after refused calls", x.undo(), 2);
    }

    private static void promise29TwentySteps() {
        RouteBudget x = Checks.loaded(CIRCLE);
        for (int step = 0; step < 20; step++) {
            CHECKS.same("step " + step, x.step(step % 2, step == 0), step / 2 * 4 + (step % 2 == 0 ? 1 : 4) + 2);
        }
        CHECKS.same("steps", x.count(11), 20);
        CHECKS.refuses(x, "a 21st step", IllegalStateException.class, () -> x.step(0, false));
        CHECKS.same("grief(19)", x.grief(19), 3 + 12 - 11);
        CHECKS.same("restart", x.restart(), 20);
        CHECKS.same("undo", x.undo(), 7);
        CHECKS.same("time", x.count(9), 42);
    }

    private static void promise30Restart() {
        RouteBudget x = Checks.loaded(NET);
        CHECKS.same("restart at the beginning", x.restart(), 0);
        CHECKS.same("it is a change", x.undo(), 1);
        x.step(0, true);
        x.step(1, false);
        CHECKS.same("restart", x.restart(), 2);
        int[] due = {0, 0, 1, 0};
        for (int what = 8; what <= 11; what++) {
            CHECKS.same("count(" + what + ")", x.count(what), due[what - 8]);
        }
        CHECKS.refuses(x, "grief(0)", IndexOutOfBoundsException.class, () -> x.grief(0));
        CHECKS.same("undo", x.undo(), 3);
        CHECKS.same("node", x.count(8), 3);
        CHECKS.same("time", x.count(9), 9);
    }

    private static void promise31Promise() {
        RouteBudget x = Checks.loaded(NET);
        CHECKS.same("promise", x.promise(), 8);
        x.step(0, true);
        CHECKS.same("promise", x.promise(), 9);
        x.step(5, false);
        CHECKS.same("promise", x.promise(), 10);
        x.step(3, false);
        CHECKS.same("promise at the target", x.promise(), 10);
        x.restart();
        x.step(6, false);
        CHECKS.refuses(x, "promise at 4", NoSuchElementException.class, x::promise);
        RouteBudget y = new RouteBudget();
        CHECKS.refuses(y, "promise at first", NoSuchElementException.class, y::promise);
    }

    private static void promise32Grief() {
        RouteBudget x = Checks.loaded(NET);
        CHECKS.refuses(x, "grief(0) of no step", IndexOutOfBoundsException.class, () -> x.grief(0));
        x.step(0, true);
        x.step(5, false);
        x.step(3, false);
        CHECKS.same("grief(0)", x.grief(0), 1);
        CHECKS.same("grief(1)", x.grief(1), 1);
        CHECKS.same("grief(2)", x.grief(2), 0);
        CHECKS.refuses(x, "grief(3)", IndexOutOfBoundsException.class, () -> x.grief(3));
        CHECKS.refuses(x, "grief(-1)", IndexOutOfBoundsException.class, () -> x.grief(-1));
        x.restart();
        x.step(0, false);
        CHECKS.same("a step that the opponent spares", x.grief(0), 2 + 2 - 8);
        x.restart();
        x.step(6, false);
        CHECKS.refuses(x, "grief(0) into 4", NoSuchElementException.class, () -> x.grief(0));
        CHECKS.refuses(x, "grief(1) of no step", IndexOutOfBoundsException.class, () -> x.grief(1));
        RouteBudget y = Checks.loaded("net 4 0 3;arc 0 1 1 1;arc 1 2 1 1;");
        y.step(0, false);
        y.step(1, false);
        CHECKS.refuses(y, "grief(0) without value", NoSuchElementException.class, () -> y.grief(0));
        CHECKS.refuses(y, "grief(1) without value", NoSuchElementException.class, () -> y.grief(1));
        CHECKS.refuses(y, "grief(2) without step", IndexOutOfBoundsException.class, () -> y.grief(2));
    }
}
