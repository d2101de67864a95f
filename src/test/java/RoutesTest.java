import java.util.NoSuchElementException;

/** Promises 22 to 26: shortest, robust, calm, bestArc and within. */
public final class RoutesTest {
    private static final Checks CHECKS = new Checks();

    /** All routes: 0 1, 0 5 3, 2 3 and 4, with worst costs 9, 10, 8 and 9 and regrets 3, 5, 4 and 5. */
    private static final String NET =
            "net 4 0 3;budget 1;arc 0 1 2 5;arc 1 3 2 0;arc 0 2 3 1;arc 2 3 3 2;arc 0 3 9 0;arc 1 2 0 4;";
    private static final String NO_ROUTE = "net 3 0 2;arc 0 1 1 1;arc 1 0 1 1;arc 2 1 1 1;";

    public static void main(String[] args) {
        promise22Shortest();
        promise23Robust();
        promise23Ties();
        promise23FollowsChanges();
        promise24Calm();
        promise24Ties();
        promise25BestArc();
        promise26Within();
        CHECKS.end();
    }

    private static void promise22Shortest() {
        RouteBudget x = Checks.loaded(NET + "budget 0;");
        CHECKS.same("shortest(0)", x.shortest(0), 4);
        CHECKS.same("shortest(1)", x.shortest(1), 6);
        CHECKS.same("shortest(1 + 4)", x.shortest(5), 7);
        CHECKS.same("shortest(1 + 4 + 8)", x.shortest(13), 9);
        CHECKS.same("shortest(-1)", x.shortest(-1), 9);
        CHECKS.same("bits without arcs", x.shortest(0xffffffc0), 4);
        CHECKS.same("the way round", Checks.loaded("net 8 0 7;arc 6 7 1 1;arc 5 6 1 1;arc 4 5 1 1;arc 3 4 1 1;arc 2 3 1 1;"
                + "arc 1 2 1 1;arc 0 1 1 1;arc 0 7 20 0;").shortest(127), 14);
        RouteBudget none = Checks.loaded(NO_ROUTE);
        CHECKS.refuses(none, "shortest(0) without route", NoSuchElementException.class, () -> none.shortest(0));
        RouteBudget start = new RouteBudget();
        CHECKS.refuses(start, "shortest(0) at first", NoSuchElementException.class, () -> start.shortest(0));
        CHECKS.same("the most", Checks.loaded("net 8 0 7;arc 0 1 99 99;arc 1 2 99 99;arc 2 3 99 99;arc 3 4 99 99;"
                + "arc 4 5 99 99;arc 5 6 99 99;arc 6 7 99 99;").shortest(-1), 1386);
    }

    private static void robust(RouteBudget x, int... due) {
        for (int what = 0; what < due.length; what++) {
            CHECKS.same("robust(" + what + ")", x.robust(what), due[what]);
        }
    }

    private static void calm(RouteBudget x, int... due) {
        for (int what = 0; what < due.length; what++) {
            CHECKS.same("calm(" + what + ")", x.calm(what), due[what]);
        }
    }

    private static void promise23Robust() {
        RouteBudget x = Checks.loaded(NET);
        robust(x, 2, 6, 8, 8, 4, 8);
        CHECKS.refuses(x, "robust(6)", IllegalArgumentException.class, () -> x.robust(6));
        CHECKS.refuses(x, "robust(-1)", IllegalArgumentException.class, () -> x.robust(-1));
        RouteBudget none = Checks.loaded(NO_ROUTE);
        CHECKS.refuses(none, "robust(0) without route", NoSuchElementException.class, () -> none.robust(0));
        CHECKS.refuses(none, "robust(5) without route", NoSuchElementException.class, () -> none.robust(5));
        CHECKS.refuses(none, "robust(6) without route", IllegalArgumentException.class, () -> none.robust(6));
    }

    private static void promise23Ties() {
        // Equal worst costs 6: the least plain cost.
        RouteBudget x = Checks.loaded("net 2 0 1;arc 0 1 5 1;arc 0 1 3 3;arc 0 1 4 2;");
        CHECKS.same("by plain cost", x.bestArc(false, 0), 1);
        // Equal worst and plain costs: the fewest arcs.
        RouteBudget y = Checks.loaded("net 4 0 3;arc 0 1 1 1;arc 1 2 1 1;arc 2 3 1 1;arc 1 3 2 1;arc 0 3 3 2;arc 0 3 3 2;");
        CHECKS.same("by number of arcs", y.robust(0), 1);
        CHECKS.same("then the first one", y.bestArc(false, 0), 4);
        // All equal: lexicographic order, in which 0 5 comes before 1 2.
        RouteBudget z = Checks.loaded("net 4 0 3;arc 0 1 1 1;arc 0 2 1 1;arc 2 3 1 1;arc 2 3 1 1;arc 1 2 1 1;arc 1 3 1 1;");
        CHECKS.same("by the first arc", z.bestArc(false, 0), 0);
        CHECKS.same("its second arc", z.bestArc(false, 1), 5);
        RouteBudget w = Checks.loaded("net 3 0 2;arc 1 2 1 1;arc 1 2 1 1;arc 0 1 1 1;");
        CHECKS.same("by the second arc", w.bestArc(false, 1), 0);
    }

    private static void promise23FollowsChanges() {
        RouteBudget x = Checks.loaded(NET);
        CHECKS.same("robust(2)", x.robust(2), 8);
        CHECKS.same("calm(4)", x.calm(4), 3);
        x.addArc(0, 3, 1, 1);
        CHECKS.same("robust(2) after addArc", x.robust(2), 2);
        CHECKS.same("calm(4) after addArc", x.calm(4), 0);
        x.removeArc(6);
        CHECKS.same("robust(2) after removeArc", x.robust(2), 8);
        CHECKS.same("calm(4) after removeArc", x.calm(4), 3);
        x.setBudget(0);
        CHECKS.same("robust(2) after setBudget", x.robust(2), 4);
        CHECKS.same("calm(4) after setBudget", x.calm(4), 0);
        x.undo();
        CHECKS.same("robust(2) after undo", x.robust(2), 8);
        CHECKS.same("calm(4) after undo", x.calm(4), 3);
        // The routes with arc 3 are out of the way, so 0 1 is calm but for its delay: 9 against 9.
        x.setArc(3, 50, 0);
        CHECKS.same("robust(2) after setArc", x.robust(2), 9);
        CHECKS.same("calm(4) after setArc", x.calm(4), 0);
        Checks.load(x, NO_ROUTE);
        CHECKS.refuses(x, "robust(2) after load", NoSuchElementException.class, () -> x.robust(2));
        CHECKS.refuses(x, "calm(4) after load", NoSuchElementException.class, () -> x.calm(4));
    }

    private static void promise24Calm() {
        RouteBudget x = Checks.loaded(NET);
        calm(x, 2, 4, 9, 1, 3, 1);
        CHECKS.refuses(x, "calm(6)", IllegalArgumentException.class, () -> x.calm(6));
        CHECKS.refuses(x, "calm(-1)", IllegalArgumentException.class, () -> x.calm(-1));
        x.setBudget(0);
        calm(x, 2, 4, 4, 0, 0, 0);
        RouteBudget none = Checks.loaded(NO_ROUTE);
        CHECKS.refuses(none, "calm(0) without route", NoSuchElementException.class, () -> none.calm(0));
        CHECKS.refuses(none, "calm(6) without route", IllegalArgumentException.class, () -> none.calm(6));
    }

    private static void promise24Ties() {
        // The regrets are 6 - 3, 6 - 4 and 6 - 3.
        RouteBudget x = Checks.loaded("net 2 0 1;budget 1;arc 0 1 5 1;arc 0 1 3 3;arc 0 1 4 2;");
        CHECKS.same("calm arc", x.bestArc(true, 0), 1);
        CHECKS.same("calm(4)", x.calm(4), 2);
        // Both regrets are 3; the worst costs are 11 and 10.
        RouteBudget y = Checks.loaded("net 2 0 1;budget 1;arc 0 1 7 4;arc 0 1 8 2;");
        calm(y, 1, 8, 10, 2, 3, 2);
        // Equal regrets and worst costs: the least plain cost, here that of the later arc.
        RouteBudget z = Checks.loaded("net 2 0 1;budget 1;arc 0 1 6 3;arc 0 1 5 4;arc 0 1 5 9;");
        calm(z, 1, 5, 9, 2, 4, 2);
        // All equal: the fewest arcs, then the first one.
        RouteBudget w = Checks.loaded("net 3 0 2;arc 0 1 1 0;arc 1 2 1 0;arc 0 2 2 0;arc 0 2 2 0;");
        CHECKS.same("calm(0)", w.calm(0), 1);
        CHECKS.same("calm arc", w.bestArc(true, 0), 2);
    }

    private static void promise25BestArc() {
        RouteBudget x = Checks.loaded(NET);
        CHECKS.same("bestArc(false, 0)", x.bestArc(false, 0), 2);
        CHECKS.same("bestArc(false, 1)", x.bestArc(false, 1), 3);
        CHECKS.same("bestArc(true, 0)", x.bestArc(true, 0), 0);
        CHECKS.same("bestArc(true, 1)", x.bestArc(true, 1), 1);
        for (boolean calm : new boolean[] {false, true}) {
            CHECKS.refuses(x, "bestArc(2)", IndexOutOfBoundsException.class, () -> x.bestArc(calm, 2));
            CHECKS.refuses(x, "bestArc(-1)", IndexOutOfBoundsException.class, () -> x.bestArc(calm, -1));
            CHECKS.refuses(x, "bestArc(7)", IndexOutOfBoundsException.class, () -> x.bestArc(calm, 7));
            RouteBudget none = Checks.loaded(NO_ROUTE);
            CHECKS.refuses(none, "bestArc(0) without route", IndexOutOfBoundsException.class, () -> none.bestArc(calm, 0));
        }
    }

    private static void promise26Within() {
        RouteBudget x = Checks.loaded(NET);
        int[] due = {0, 1, 3, 4, 4};
        for (int i = 0; i < due.length; i++) {
            CHECKS.same("within(" + (7 + i) + ")", x.within(7 + i), due[i]);
        }
        CHECKS.same("within(least)", x.within(Integer.MIN_VALUE), 0);
        CHECKS.same("within(most)", x.within(Integer.MAX_VALUE), 4);
        CHECKS.same("within(0)", Checks.loaded("net 2 0 1;arc 0 1 0 0;arc 0 1 0 1;").within(0), 1);
        CHECKS.same("within(-1)", Checks.loaded("net 2 0 1;arc 0 1 0 0;").within(-1), 0);
        CHECKS.same("within without route", Checks.loaded(NO_ROUTE).within(1000), 0);
    }
}
