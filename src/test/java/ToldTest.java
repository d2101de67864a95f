/** Promises 11 to 21: draft, drop, reason, tell, forget, routeArc, route, cost, chosen, beats and strain. */
public final class ToldTest {
    private static final Checks CHECKS = new Checks();

    /** All routes: 0 1, 0 5 3, 2 3 and 4, with the plain costs 4, 5, 6 and 9. */
    static final String NET = "net 4 0 3;budget 1;arc 0 1 2 5;arc 1 3 2 0;arc 0 2 3 1;arc 2 3 3 2;arc 0 3 9 0;arc 1 2 0 4;";
    private static final String SIX = "net 2 0 1;" + "arc 0 1 1 1;".repeat(8)
            + "route 0;route 1;route 2;route 3;route 4;route 5;";

    public static void main(String[] args) {
        promise11Draft();
        promise12Drop();
        promise13Reason();
        promise14Tell();
        promise15Forget();
        promise16RouteArc();
        promise17Route();
        promise17Witness();
        promise17RegretWitness();
        promise17ToldRegret();
        promise17Refuses();
        promise18Cost();
        promise19Chosen();
        promise20Beats();
        promise21Strain();
        CHECKS.end();
    }

    private static void promise11Draft() {
        RouteBudget x = Checks.loaded("net 5 1 3;arc 1 2 1 1;arc 2 1 1 1;arc 2 4 1 1;arc 4 2 1 1;arc 4 3 1 1;arc 3 0 1 1;"
                + "arc 4 1 1 1;");
        CHECKS.refuses(x, "draft(7)", IndexOutOfBoundsException.class, () -> x.draft(7));
        CHECKS.refuses(x, "draft(-1)", IndexOutOfBoundsException.class, () -> x.draft(-1));
        CHECKS.refuses(x, "not from the source", IllegalStateException.class, () -> x.draft(2));
        CHECKS.same("draft(0)", x.draft(0), 2);
        CHECKS.refuses(x, "back to the source", IllegalStateException.class, () -> x.draft(1));
        CHECKS.refuses(x, "an arc of another node", IllegalStateException.class, () -> x.draft(0));
        CHECKS.same("draft(2)", x.draft(2), 4);
        CHECKS.refuses(x, "to a node of the draft", IllegalStateException.class, () -> x.draft(3));
        CHECKS.refuses(x, "to the source", IllegalStateException.class, () -> x.draft(6));
        CHECKS.same("draft(4)", x.draft(4), 3);
        CHECKS.refuses(x, "behind the target", IllegalStateException.class, () -> x.draft(5));
        CHECKS.same("arcs of the draft", x.count(6), 3);
        CHECKS.same("undo", x.undo(), 3);
        CHECKS.same("arcs of the draft", x.count(6), 2);
        CHECKS.same("draft(4)", x.draft(4), 3);

        RouteBudget y = Checks.loaded("net 8 0 7;arc 0 1 1 1;arc 1 2 1 1;arc 2 3 1 1;arc 3 4 1 1;arc 4 5 1 1;arc 5 6 1 1;"
                + "arc 6 7 1 1;");
        y.addArc(4, 3, 1, 1);
        y.addArc(4, 2, 1, 1);
        for (int arc = 0; arc < 4; arc++) {
            CHECKS.same("a long draft", y.draft(arc), arc + 1);
        }
        CHECKS.refuses(y, "back to the node before", IllegalStateException.class, () -> y.draft(7));
        CHECKS.refuses(y, "back to a node in the middle", IllegalStateException.class, () -> y.draft(8));
        for (int arc = 4; arc < 7; arc++) {
            CHECKS.same("the longest draft", y.draft(arc), arc + 1);
        }
        CHECKS.same("tell", y.tell(), 0);
        CHECKS.same("its arcs", y.route(0, 0), 7);
    }

    private static void promise12Drop() {
        RouteBudget x = Checks.loaded(NET);
        CHECKS.refuses(x, "drop of nothing", IllegalStateException.class, x::drop);
        x.draft(0);
        x.draft(5);
        CHECKS.same("drop", x.drop(), 1);
        CHECKS.same("draft goes on", x.draft(1), 3);
        CHECKS.same("drop", x.drop(), 1);
        CHECKS.same("drop", x.drop(), 0);
        CHECKS.refuses(x, "drop of nothing", IllegalStateException.class, x::drop);
        CHECKS.same("draft begins anew", x.draft(2), 2);
        CHECKS.same("undo", x.undo(), 7);
        CHECKS.same("undo of a drop", x.undo(), 6);
        CHECKS.same("arcs of the draft", x.count(6), 1);
    }

    private static void promise13Reason() {
        RouteBudget x = Checks.loaded(NET + "route 0 1;route 4;");
        CHECKS.same("empty draft", x.reason(), 1);
        x.draft(0);
        CHECKS.same("not at the target", x.reason(), 1);
        x.draft(1);
        CHECKS.same("told already", x.reason(), 2);
        x.drop();
        x.draft(5);
        x.draft(3);
        CHECKS.same("another one", x.reason(), 0);
        x.drop();
        CHECKS.same("not at the target again", x.reason(), 1);
        RouteBudget y = Checks.loaded(SIX);
        CHECKS.same("empty draft with six routes", y.reason(), 1);
        y.draft(6);
        CHECKS.same("a seventh route", y.reason(), 3);
        y.drop();
        y.draft(5);
        CHECKS.same("told already, with six routes", y.reason(), 2);
        y.forget(0);
        CHECKS.same("told already, with five routes", y.reason(), 2);
        y.forget(4);
        CHECKS.same("forgotten", y.reason(), 0);
    }

    private static void promise14Tell() {
        RouteBudget x = Checks.loaded(NET + "route 4;");
        CHECKS.refuses(x, "tell of an empty draft", IllegalStateException.class, x::tell);
        x.draft(2);
        CHECKS.refuses(x, "tell on the way", IllegalStateException.class, x::tell);
        x.draft(3);
        CHECKS.same("tell", x.tell(), 1);
        CHECKS.same("told routes", x.count(5), 2);
        CHECKS.same("the draft is empty", x.count(6), 0);
        CHECKS.same("routeArc(1, 0)", x.routeArc(1, 0), 2);
        CHECKS.same("routeArc(1, 1)", x.routeArc(1, 1), 3);
        x.draft(4);
        CHECKS.refuses(x, "tell again", IllegalStateException.class, x::tell);
        x.drop();
        CHECKS.same("draft does not change the told route", x.draft(0), 1);
        CHECKS.same("routeArc(1, 0)", x.routeArc(1, 0), 2);
        x.undo();
        x.undo();
        x.undo();
        CHECKS.same("undo of tell", x.undo(), 3);
        CHECKS.same("the draft is back", x.count(6), 2);
        CHECKS.same("the route is not told", x.count(5), 1);
        RouteBudget y = Checks.loaded(SIX);
        y.draft(7);
        CHECKS.refuses(y, "a seventh route", IllegalStateException.class, y::tell);
        y.forget(2);
        CHECKS.same("tell the sixth one", y.tell(), 5);
    }

    private static void promise15Forget() {
        RouteBudget x = Checks.loaded(SIX);
        CHECKS.refuses(x, "forget(6)", IndexOutOfBoundsException.class, () -> x.forget(6));
        CHECKS.refuses(x, "forget(-1)", IndexOutOfBoundsException.class, () -> x.forget(-1));
        CHECKS.same("forget(1)", x.forget(1), 5);
        int[] due = {0, 2, 3, 4, 5};
        for (int route = 0; route < 5; route++) {
            CHECKS.same("routeArc(" + route + ", 0)", x.routeArc(route, 0), due[route]);
        }
        CHECKS.same("forget the last", x.forget(4), 4);
        CHECKS.same("routeArc(3, 0)", x.routeArc(3, 0), 4);
        CHECKS.refuses(x, "forget(4)", IndexOutOfBoundsException.class, () -> x.forget(4));
        CHECKS.same("undo", x.undo(), 2);
        CHECKS.same("routeArc(4, 0)", x.routeArc(4, 0), 5);
        x.step(0, false);
        CHECKS.same("forget", x.forget(0), 4);
        CHECKS.same("the journey goes on", x.count(11), 1);
    }

    private static void promise16RouteArc() {
        RouteBudget x = Checks.loaded(NET + "route 0 5 3;route 4;");
        CHECKS.same("routeArc(0, 0)", x.routeArc(0, 0), 0);
        CHECKS.same("routeArc(0, 1)", x.routeArc(0, 1), 5);
        CHECKS.same("routeArc(0, 2)", x.routeArc(0, 2), 3);
        CHECKS.same("routeArc(1, 0)", x.routeArc(1, 0), 4);
        CHECKS.refuses(x, "routeArc(0, 3)", IndexOutOfBoundsException.class, () -> x.routeArc(0, 3));
        CHECKS.refuses(x, "routeArc(0, -1)", IndexOutOfBoundsException.class, () -> x.routeArc(0, -1));
        CHECKS.refuses(x, "routeArc(1, 1)", IndexOutOfBoundsException.class, () -> x.routeArc(1, 1));
        CHECKS.refuses(x, "routeArc(1, 7)", IndexOutOfBoundsException.class, () -> x.routeArc(1, 7));
        CHECKS.refuses(x, "routeArc(2, 0)", IndexOutOfBoundsException.class, () -> x.routeArc(2, 0));
        CHECKS.refuses(x, "routeArc(-1, 0)", IndexOutOfBoundsException.class, () -> x.routeArc(-1, 0));
    }

    private static void numbers(RouteBudget x, int route, int... due) {
        for (int what = 0; what < due.length; what++) {
            CHECKS.same("route(" + route + ", " + what + ")", x.route(route, what), due[what]);
        }
    }

    private static void promise17Route() {
        RouteBudget x = Checks.loaded(NET + "route 4;route 0 1;route 0 5 3;route 2 3;");
        // Against arc 0 the shortest cost is 6, against every other one it is 4.
        numbers(x, 0, 1, 9, 9, 0, 5, 0, 5, 3);
        numbers(x, 1, 2, 4, 9, 1, 3, 1, 3, 1);
        numbers(x, 2, 3, 5, 10, 1, 5, 32, 5, 3);
        numbers(x, 3, 2, 6, 8, 8, 4, 8, 4, 2);
        x.forget(1);
        // Now the least told cost is 5, or 6 against arc 0, and 5 + 2 = 7 stands against 8 for arc 3.
        numbers(x, 0, 1, 9, 9, 0, 5, 0, 4, 2);
        numbers(x, 1, 3, 5, 10, 1, 5, 32, 4, 2);
        numbers(x, 2, 2, 6, 8, 8, 4, 8, 2, 1);
        x.setBudget(0);
        numbers(x, 0, 1, 9, 9, 0, 5, 0, 4, 2);
        numbers(x, 1, 3, 5, 5, 0, 1, 0, 0, 0);
        numbers(x, 2, 2, 6, 6, 0, 2, 0, 1, 1);
        x.forget(0);
        x.forget(1);
        numbers(x, 0, 3, 5, 5, 0, 1, 0, 0, 0);
        RouteBudget y = Checks.loaded(NET + "route 4;route 0 1;route 0 5 3;route 2 3;");
        CHECKS.same("the regret witness asked for first", y.route(2, 5), 32);
        CHECKS.same("then the told regret of another one", y.route(0, 6), 5);
        CHECKS.same("then the regret of yet another one", y.route(1, 4), 3);
        CHECKS.same("then another regret witness", y.route(3, 5), 8);
    }

    private static void promise17Witness() {
        String chain = "net 8 0 7;arc 0 1 1 3;arc 1 2 1 5;arc 2 3 1 0;arc 3 4 1 5;arc 4 5 1 5;arc 5 6 1 3;arc 6 7 1 4;"
                + "route 0 1 2 3 4 5 6;";
        int[] witness = {0, 2, 2 + 8, 2 + 8 + 16, 2 + 8 + 16 + 64, 2 + 8 + 16 + 64 + 1, 2 + 8 + 16 + 64 + 1 + 32};
        int[] worst = {7, 12, 17, 22, 26, 29, 32};
        for (int budget = 0; budget <= 6; budget++) {
            RouteBudget x = Checks.loaded(chain + "budget " + budget + ";");
            CHECKS.same("witness for " + budget, x.route(0, 3), witness[budget]);
            CHECKS.same("worst cost for " + budget, x.route(0, 2), worst[budget]);
            // It is the only route, so it is the shortest one against every delay.
            CHECKS.same("regret for " + budget, x.route(0, 4), 0);
            CHECKS.same("regret witness for " + budget, x.route(0, 5), 0);
        }
        RouteBudget y = Checks.loaded("net 3 0 2;budget 1;arc 1 2 1 5;arc 0 1 1 5;route 1 0;");
        CHECKS.same("the lower number, not the first one on the route", y.route(0, 3), 1);
        RouteBudget z = Checks.loaded("net 3 0 2;budget 6;arc 1 2 1 0;arc 0 1 1 0;route 1 0;");
        CHECKS.same("no extras, no witness", z.route(0, 3), 0);
    }

    private static void promise17RegretWitness() {
        // 0 1 2 regrets 4 with each of its arcs 0 to 2 delayed, but not more with two of them.
        RouteBudget x = Checks.loaded("net 4 0 3;budget 2;arc 0 1 0 4;arc 1 2 0 4;arc 2 3 0 4;arc 0 3 0 4;route 0 1 2;");
        numbers(x, 0, 3, 0, 8, 3, 8, 3, 0, 0);
        x.setBudget(1);
        numbers(x, 0, 3, 0, 4, 1, 4, 1, 0, 0);
        // The arcs shared with the other route bring no regret; the numbers are against the order on the route.
        RouteBudget y = Checks.loaded("net 4 0 3;budget 3;arc 2 3 1 5;arc 1 2 1 5;arc 0 1 1 9;arc 1 3 4 0;route 2 1 0;");
        numbers(y, 0, 3, 3, 22, 7, 8, 3, 0, 0);
        y.setBudget(1);
        numbers(y, 0, 3, 3, 12, 4, 3, 1, 0, 0);
        // One arc does as much as two others together: the fewest arcs count before the least number.
        RouteBudget z = Checks.loaded("net 4 0 3;budget 2;arc 0 1 0 3;arc 1 2 0 3;arc 2 3 0 9;arc 0 3 0 0;arc 1 3 0 0;"
                + "arc 0 3 6 0;route 0 1 2;");
        numbers(z, 0, 3, 0, 12, 5, 12, 5, 0, 0);
        RouteBudget w = Checks.loaded("net 4 0 3;budget 2;arc 0 1 0 3;arc 1 2 0 3;arc 2 3 0 6;arc 0 3 6 0;arc 1 3 0 3;"
                + "route 0 1 2;");
        // The witness of the route is the delay of 0 and 2, but that of its regret is the one of 1 and 2.
        numbers(w, 0, 3, 0, 9, 5, 9, 6, 0, 0);
        w.setBudget(1);
        numbers(w, 0, 3, 0, 6, 4, 6, 4, 0, 0);
    }

    private static void promise17ToldRegret() {
        RouteBudget x = Checks.loaded("net 2 0 1;budget 1;arc 0 1 5 5;arc 0 1 4 9;arc 0 1 1 1;route 0;route 1;");
        numbers(x, 0, 1, 5, 10, 1, 9, 1, 6, 1);
        numbers(x, 1, 1, 4, 13, 2, 12, 2, 8, 1);
        x.setBudget(0);
        numbers(x, 0, 1, 5, 5, 0, 4, 0, 1, 1);
        numbers(x, 1, 1, 4, 4, 0, 3, 0, 0, 0);
    }

    private static void promise17Refuses() {
        RouteBudget x = Checks.loaded(NET + "route 0 1;");
        CHECKS.refuses(x, "route(1, 0)", IndexOutOfBoundsException.class, () -> x.route(1, 0));
        CHECKS.refuses(x, "route(-1, 0)", IndexOutOfBoundsException.class, () -> x.route(-1, 0));
        CHECKS.refuses(x, "route(6, 0)", IndexOutOfBoundsException.class, () -> x.route(6, 0));
        CHECKS.refuses(x, "route(1, 8)", IndexOutOfBoundsException.class, () -> x.route(1, 8));
        CHECKS.refuses(x, "route(0, 8)", IllegalArgumentException.class, () -> x.route(0, 8));
        CHECKS.refuses(x, "route(0, -1)", IllegalArgumentException.class, () -> x.route(0, -1));
    }

    private static void promise18Cost() {
        RouteBudget x = Checks.loaded(NET + "budget 0;route 0 5 3;");
        CHECKS.same("cost(0, 0)", x.cost(0, 0), 5);
        CHECKS.same("cost(0, 1)", x.cost(0, 1), 10);
        CHECKS.same("cost(0, 32)", x.cost(0, 32), 9);
        CHECKS.same("cost(0, 41)", x.cost(0, 41), 16);
        CHECKS.same("arcs of other routes", x.cost(0, 2 + 4 + 16), 5);
        CHECKS.same("cost(0, -1)", x.cost(0, -1), 16);
        CHECKS.same("bits without arcs", x.cost(0, 0xffffffc0), 5);
        CHECKS.same("the highest bit", x.cost(0, Integer.MIN_VALUE), 5);
        CHECKS.refuses(x, "cost(1, 0)", IndexOutOfBoundsException.class, () -> x.cost(1, 0));
        CHECKS.refuses(x, "cost(-1, 0)", IndexOutOfBoundsException.class, () -> x.cost(-1, 0));
    }

    private static void promise19Chosen() {
        RouteBudget x = Checks.loaded(NET);
        CHECKS.refuses(x, "chosen of none", java.util.NoSuchElementException.class, x::chosen);
        RouteBudget y = Checks.loaded(NET + "route 4;route 0 5 3;route 2 3;route 0 1;");
        CHECKS.same("told regrets 5, 5, 4, 3", y.chosen(), 3);
        y.forget(3);
        CHECKS.same("told regrets 4, 4, 2", y.chosen(), 2);
        y.forget(2);
        CHECKS.same("told regrets 4 and 1", y.chosen(), 1);
        y.forget(0);
        CHECKS.same("the only one", y.chosen(), 0);
        CHECKS.same("the lowest of equal ones", Checks.loaded(SIX).chosen(), 0);
    }

    private static void promise20Beats() {
        RouteBudget x = Checks.loaded(NET + "route 4;route 0 1;route 0 5 3;route 2 3;");
        boolean[][] due = {
            {false, false, true, false},
            {true, false, true, true},
            {true, false, false, true},
            {true, true, true, false},
        };
        for (int route = 0; route < 4; route++) {
            for (int other = 0; other < 4; other++) {
                CHECKS.same("beats(" + route + ", " + other + ")", x.beats(route, other) ? 1 : 0,
                        due[route][other] ? 1 : 0);
            }
        }
        CHECKS.refuses(x, "beats(4, 0)", IndexOutOfBoundsException.class, () -> x.beats(4, 0) ? 1 : 0);
        CHECKS.refuses(x, "beats(0, 4)", IndexOutOfBoundsException.class, () -> x.beats(0, 4) ? 1 : 0);
        CHECKS.refuses(x, "beats(-1, 0)", IndexOutOfBoundsException.class, () -> x.beats(-1, 0) ? 1 : 0);
        CHECKS.refuses(x, "beats(0, -1)", IndexOutOfBoundsException.class, () -> x.beats(0, -1) ? 1 : 0);
        CHECKS.same("equal costs do not beat", Checks.loaded(SIX.replace("1 1;", "1 0;")).beats(0, 1) ? 1 : 0, 0);
    }

    private static void strains(RouteBudget x, int route, float due) {
        CHECKS.same("strain(" + route + ")", Float.floatToIntBits(x.strain(route)), Float.floatToIntBits(due));
    }

    private static void promise21Strain() {
        RouteBudget x = Checks.loaded("net 2 0 1;arc 0 1 3 7;arc 0 1 4 0;arc 0 1 0 9;arc 0 1 0 0;route 0;route 1;route 2;"
                + "route 3;");
        strains(x, 0, 10.0f / 3.0f);
        strains(x, 1, 1.0f);
        strains(x, 2, 1.0f);
        strains(x, 3, 1.0f);
        CHECKS.refuses(x, "strain(4)", IndexOutOfBoundsException.class, () -> (int) x.strain(4));
        CHECKS.refuses(x, "strain(-1)", IndexOutOfBoundsException.class, () -> (int) x.strain(-1));
        x.setBudget(0);
        strains(x, 0, 1.0f);
    }
}
