/** Promises 5 to 10: count, arc, addArc, removeArc, setArc and setBudget. */
public final class NetworkTest {
    private static final Checks CHECKS = new Checks();
    private static final String NET = "net 5 1 4;budget 3;arc 1 0 2 7;arc 0 4 3 1;arc 1 2 4 4;arc 2 4 0 9;arc 2 0 1 0;";

    public static void main(String[] args) {
        promise5Count();
        promise6Arc();
        promise7AddArc();
        promise7AddArcRefuses();
        promise8RemoveArc();
        promise8RemoveArcRefuses();
        promise9SetArc();
        promise10SetBudget();
        CHECKS.end();
    }

    private static RouteBudget travelled(String text) {
        RouteBudget x = Checks.loaded(text);
        x.step(0, true);
        return x;
    }

    private static void beginsAnew(String call, RouteBudget x, int left) {
        CHECKS.same(call + ": node", x.count(8), x.count(2));
        CHECKS.same(call + ": time", x.count(9), 0);
        CHECKS.same(call + ": left budget", x.count(10), left);
        CHECKS.same(call + ": steps", x.count(11), 0);
    }

    private static void promise5Count() {
        RouteBudget x = Checks.loaded(NET + "route 0 1;");
        x.draft(2);
        x.draft(4);
        x.step(0, true);
        int[] due = {5, 5, 1, 4, 3, 1, 2, 3, 0, 9, 2, 1};
        for (int what = 0; what < due.length; what++) {
            CHECKS.same("count(" + what + ")", x.count(what), due[what]);
        }
        CHECKS.refuses(x, "count(12)", IllegalArgumentException.class, () -> x.count(12));
        CHECKS.refuses(x, "count(-1)", IllegalArgumentException.class, () -> x.count(-1));
        CHECKS.refuses(x, "count(least)", IllegalArgumentException.class, () -> x.count(Integer.MIN_VALUE));
        CHECKS.same("routes with loops, arcs from the target and dead ends", Checks.loaded(
                "net 5 0 2;arc 0 1 1 1;arc 1 0 1 1;arc 1 2 1 1;arc 2 3 1 1;arc 3 2 1 1;arc 1 3 1 1;arc 0 4 1 1;"
                + "arc 3 1 1 1;").count(7), 2);
        CHECKS.same("routes of parallel arcs", Checks.loaded("net 3 2 1;arc 2 0 1 1;arc 2 0 1 1;arc 0 1 1 1;"
                + "arc 0 1 1 1;arc 0 1 1 1;arc 2 1 1 1;").count(7), 7);
        CHECKS.same("the most routes", Checks.loaded("net 6 0 5;" + "arc 0 1 1 1;".repeat(3) + "arc 1 2 1 1;".repeat(3)
                + "arc 2 3 1 1;".repeat(3) + "arc 3 4 1 1;".repeat(3) + "arc 4 5 1 1;".repeat(4)).count(7), 324);
    }

    private static void promise6Arc() {
        RouteBudget x = Checks.loaded(NET);
        int[] due = {1, 2, 4, 4};
        for (int what = 0; what < due.length; what++) {
            CHECKS.same("arc(2, " + what + ")", x.arc(2, what), due[what]);
        }
        CHECKS.same("arc(4, 0)", x.arc(4, 0), 2);
        CHECKS.refuses(x, "arc(5, 0)", IndexOutOfBoundsException.class, () -> x.arc(5, 0));
        CHECKS.refuses(x, "arc(-1, 0)", IndexOutOfBoundsException.class, () -> x.arc(-1, 0));
        CHECKS.refuses(x, "arc(16, 0)", IndexOutOfBoundsException.class, () -> x.arc(16, 0));
        CHECKS.refuses(x, "arc(0, 4)", IllegalArgumentException.class, () -> x.arc(0, 4));
        CHECKS.refuses(x, "arc(0, -1)", IllegalArgumentException.class, () -> x.arc(0, -1));
        CHECKS.refuses(x, "arc(5, 4)", IndexOutOfBoundsException.class, () -> x.arc(5, 4));
    }

    private static void promise7AddArc() {
        RouteBudget x = travelled(NET);
        CHECKS.same("addArc", x.addArc(1, 4, 99, 0), 5);
        beginsAnew("addArc", x, 3);
        CHECKS.same("arc(5, 0)", x.arc(5, 0), 1);
        CHECKS.same("arc(5, 1)", x.arc(5, 1), 4);
        CHECKS.same("arc(5, 2)", x.arc(5, 2), 99);
        CHECKS.same("arc(5, 3)", x.arc(5, 3), 0);
        CHECKS.same("routes", x.count(7), 4);
        CHECKS.same("addArc", x.addArc(4, 0, 0, 99), 6);
        for (int arc = 7; arc < 16; arc++) {
            CHECKS.same("addArc", x.addArc(1, 4, 50, 50), arc);
        }
        CHECKS.same("arcs", x.count(1), 16);
        CHECKS.refuses(x, "a 17th arc", IllegalStateException.class, () -> x.addArc(1, 4, 1, 1));
        CHECKS.refuses(x, "a 17th arc without node", IndexOutOfBoundsException.class, () -> x.addArc(5, 4, 1, 1));
        CHECKS.refuses(x, "a 17th arc of cost 100", IllegalArgumentException.class, () -> x.addArc(1, 4, 100, 1));
        CHECKS.same("undo", x.undo(), 7);
        CHECKS.same("addArc", x.addArc(0, 1, 1, 1), 15);
    }

    private static void promise7AddArcRefuses() {
        RouteBudget x = travelled(NET);
        CHECKS.refuses(x, "addArc(5, 0)", IndexOutOfBoundsException.class, () -> x.addArc(5, 0, 1, 1));
        CHECKS.refuses(x, "addArc(0, 5)", IndexOutOfBoundsException.class, () -> x.addArc(0, 5, 1, 1));
        CHECKS.refuses(x, "addArc(-1, 0)", IndexOutOfBoundsException.class, () -> x.addArc(-1, 0, 1, 1));
        CHECKS.refuses(x, "addArc(0, -1)", IndexOutOfBoundsException.class, () -> x.addArc(0, -1, 1, 1));
        CHECKS.refuses(x, "addArc(7, 7)", IndexOutOfBoundsException.class, () -> x.addArc(7, 7, -1, 100));
        CHECKS.refuses(x, "addArc(3, 3)", IllegalArgumentException.class, () -> x.addArc(3, 3, 1, 1));
        CHECKS.refuses(x, "cost 100", IllegalArgumentException.class, () -> x.addArc(3, 4, 100, 1));
        CHECKS.refuses(x, "cost -1", IllegalArgumentException.class, () -> x.addArc(3, 4, -1, 1));
        CHECKS.refuses(x, "extra 100", IllegalArgumentException.class, () -> x.addArc(3, 4, 1, 100));
        CHECKS.refuses(x, "extra -1", IllegalArgumentException.class, () -> x.addArc(3, 4, 1, -1));
        CHECKS.same("undo after refused calls", x.undo(), 1);
        CHECKS.same("its steps", x.count(11), 0);
    }

    private static void promise8RemoveArc() {
        RouteBudget x = travelled(NET + "route 2 4 1;route 2 3;");
        x.draft(2);
        x.draft(3);
        CHECKS.same("removeArc(0)", x.removeArc(0), 4);
        beginsAnew("removeArc", x, 3);
        CHECKS.same("routeArc(0, 0)", x.routeArc(0, 0), 1);
        CHECKS.same("routeArc(0, 1)", x.routeArc(0, 1), 3);
        CHECKS.same("routeArc(0, 2)", x.routeArc(0, 2), 0);
        CHECKS.same("routeArc(1, 1)", x.routeArc(1, 1), 2);
        CHECKS.same("arc(0, 0)", x.arc(0, 0), 0);
        CHECKS.same("arc(3, 2)", x.arc(3, 2), 1);
        CHECKS.same("arc(1, 3)", x.arc(1, 3), 4);
        CHECKS.same("the draft is renumbered too", x.reason(), 2);
        CHECKS.same("routes", x.count(7), 2);
        CHECKS.same("undo", x.undo(), 4);
        CHECKS.same("routeArc(0, 0)", x.routeArc(0, 0), 2);
        CHECKS.same("reason", x.reason(), 2);
        CHECKS.same("steps are back", x.count(11), 1);

        RouteBudget y = Checks.loaded("net 2 0 1;arc 0 1 5 1;arc 0 1 4 1;arc 0 1 6 1;route 0;");
        CHECKS.same("lower arcs keep their numbers", y.removeArc(1), 2);
        CHECKS.same("routeArc(0, 0)", y.routeArc(0, 0), 0);
        CHECKS.same("the last arc", y.removeArc(1), 1);
        CHECKS.same("forget", y.forget(0), 0);
        CHECKS.same("the only arc", y.removeArc(0), 0);
        CHECKS.same("routes", y.count(7), 0);

        RouteBudget z = Checks.loaded("net 2 0 1;" + "arc 1 0 3 3;".repeat(10) + "arc 0 1 4 4;".repeat(6)
                + "route 10;route 11;route 12;route 13;route 14;route 15;");
        CHECKS.same("the first of 16 arcs, with six routes", z.removeArc(0), 15);
        for (int route = 0; route < 6; route++) {
            CHECKS.same("routeArc(" + route + ", 0)", z.routeArc(route, 0), 9 + route);
        }
        CHECKS.same("the last arc", z.arc(14, 2), 4);
    }

    private static void promise8RemoveArcRefuses() {
        RouteBudget x = travelled(NET + "route 0 1;");
        x.draft(2);
        CHECKS.refuses(x, "an arc of a told route", IllegalStateException.class, () -> x.removeArc(0));
        CHECKS.refuses(x, "its last arc", IllegalStateException.class, () -> x.removeArc(1));
        RouteBudget y = Checks.loaded(NET + "route 2 4 1;route 2 3;");
        CHECKS.refuses(y, "an arc of the second told route", IllegalStateException.class, () -> y.removeArc(3));
        CHECKS.refuses(x, "an arc of the draft", IllegalStateException.class, () -> x.removeArc(2));
        CHECKS.refuses(x, "removeArc(5)", IndexOutOfBoundsException.class, () -> x.removeArc(5));
        CHECKS.refuses(x, "removeArc(-1)", IndexOutOfBoundsException.class, () -> x.removeArc(-1));
        CHECKS.same("an arc of the forgotten draft", x.drop(), 0);
        CHECKS.same("it goes", x.removeArc(2), 4);
    }

    private static void promise9SetArc() {
        RouteBudget x = travelled(NET + "route 0 1;");
        CHECKS.same("setArc", x.setArc(0, 99, 0), 207);
        beginsAnew("setArc", x, 3);
        CHECKS.same("arc(0, 2)", x.arc(0, 2), 99);
        CHECKS.same("arc(0, 3)", x.arc(0, 3), 0);
        CHECKS.same("plain cost", x.route(0, 1), 102);
        CHECKS.same("setArc", x.setArc(0, 0, 99), 9900);
        CHECKS.same("worst cost", x.route(0, 2), 103);
        CHECKS.same("robust route after setArc", x.robust(2), 13);
        CHECKS.same("setArc", x.setArc(3, 0, 0), 9);
        CHECKS.same("robust route after another setArc", x.robust(2), 8);
        CHECKS.refuses(x, "setArc(5)", IndexOutOfBoundsException.class, () -> x.setArc(5, 1, 1));
        CHECKS.refuses(x, "setArc(-1)", IndexOutOfBoundsException.class, () -> x.setArc(-1, 100, 1));
        CHECKS.refuses(x, "cost 100", IllegalArgumentException.class, () -> x.setArc(0, 100, 1));
        CHECKS.refuses(x, "cost -1", IllegalArgumentException.class, () -> x.setArc(0, -1, 1));
        CHECKS.refuses(x, "extra 100", IllegalArgumentException.class, () -> x.setArc(0, 1, 100));
        CHECKS.refuses(x, "extra -1", IllegalArgumentException.class, () -> x.setArc(0, 1, -1));
        CHECKS.same("the same numbers again are a change", x.setArc(3, 0, 0), 0);
        CHECKS.same("undo", x.undo(), 5);
    }

    private static void promise10SetBudget() {
        RouteBudget x = travelled(NET + "route 0 1;");
        CHECKS.same("setBudget", x.setBudget(0), 3);
        beginsAnew("setBudget", x, 0);
        CHECKS.same("count(4)", x.count(4), 0);
        CHECKS.same("worst cost", x.route(0, 2), 5);
        CHECKS.same("setBudget", x.setBudget(6), 0);
        beginsAnew("setBudget", x, 6);
        CHECKS.same("worst cost", x.route(0, 2), 13);
        CHECKS.refuses(x, "setBudget(7)", IllegalArgumentException.class, () -> x.setBudget(7));
        CHECKS.refuses(x, "setBudget(-1)", IllegalArgumentException.class, () -> x.setBudget(-1));
        CHECKS.same("setBudget", x.setBudget(6), 6);
        CHECKS.same("undo", x.undo(), 4);
        CHECKS.same("undo", x.undo(), 3);
        CHECKS.same("count(4)", x.count(4), 0);
        CHECKS.same("count(10)", x.count(10), 0);
    }
}
