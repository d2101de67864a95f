/** Promises 5 to 10: count, arc, addArc, removeArc, setArc and setBudget. */
public final class NetworkTest {
    private static final Checks CHECKS = new Checks();
    private static final String NET = "net 5 1 4;budget 3;arc 1 0 2 7;arc 0 4 3 1;arc 1 2 4 4;arc 2 4 0 9;arc 2 0 1 0;";
    private static final String ARC = "arc 0 1 1 1;";

    public static void main(String[] args) {
        promise5();
        promise5Routes();
        promise6();
        promise7();
        promise7SixteenArcs();
        promise7Refuses();
        promise7Order();
        promise8();
        promise8Renumbers();
        promise8Refuses();
        promise8NotInUse();
        promise9();
        promise9Refuses();
        promise10();
        promisesKeepDraftAndRoutes();
        CHECKS.end();
    }

    private static Run run(String name) {
        return new Run(CHECKS, name);
    }

    /** On the way: with a told route, a draft and a step. */
    private static Run busy(String name) {
        return run(name).load(NET + "route 0 1;", 5).make("draft(2)", "draft(4)", "step(0, true)");
    }

    /** "Returns a number of the network." */
    private static void promise5() {
        busy("promise 5, the numbers 0 to 11").each("count(#)", 5, 5, 1, 4, 3, 1, 2, 3, 0, 9, 2, 1)
                .changesNothing("count(7)", 3);
        run("promise 5, any other what").load(NET, 5).refuses("count(-1)", Run.ARGUMENT)
                .refuses("count(12)", Run.ARGUMENT).refuses("count(-2147483648)", Run.ARGUMENT)
                .refuses("count(2147483647)", Run.ARGUMENT).due("count(0)", 5).due("count(11)", 0);
        run("promise 5, the least of each number").load("net 2 0 1;budget 0;", 0)
                .each("count(#)", 2, 0, 0, 1, 0, 0, 0, 0, 0, 0, 0, 0);
        run("promise 5, the most of each number").load("net 8 7 6;budget 6;" + "arc 7 6 99 99;".repeat(16)
                + "route 0;route 1;route 2;route 3;route 4;route 5;", 16).make("draft(6)", "step(5, true)")
                .each("count(#)", 8, 16, 7, 6, 6, 6, 1, 16, 6, 198, 5, 1);
    }

    /** "A route is a sequence of arcs .. in which each arc begins where the one before ended and no node comes twice." */
    private static void promise5Routes() {
        run("promise 5, no route without arcs").due("count(7)", 0);
        run("promise 5, no route in the other direction").load("net 2 0 1;arc 1 0 1 1;", 0 + 1).due("count(7)", 0);
        run("promise 5, no route over a gap").load("net 4 0 3;arc 0 1 1 1;arc 2 3 1 1;", 2).due("count(7)", 0)
                .due("addArc(1, 2, 1, 1)", 2).due("count(7)", 1);
        run("promise 5, no node twice, no way back, none on behind the target").load("net 5 0 2;arc 0 1 1 1;arc 1 0 1 1;"
                + "arc 1 2 1 1;arc 2 3 1 1;arc 3 2 1 1;arc 1 3 1 1;arc 0 4 1 1;arc 3 1 1 1;", 8).due("count(7)", 2);
        run("promise 5, no node twice, a way over an eight").load("net 4 0 3;arc 0 1 1 1;arc 1 2 1 1;arc 2 1 1 1;"
                + "arc 1 3 1 1;", 4).due("count(7)", 1);
        run("promise 5, parallel arcs").load("net 3 2 1;arc 2 0 1 1;arc 2 0 1 1;arc 0 1 1 1;arc 0 1 1 1;arc 0 1 1 1;"
                + "arc 2 1 1 1;", 6).due("count(7)", 7);
        run("promise 5, all 8 nodes").load("net 8 0 7;arc 0 1 1 1;arc 1 2 1 1;arc 2 3 1 1;arc 3 4 1 1;arc 4 5 1 1;"
                + "arc 5 6 1 1;arc 6 7 1 1;", 7).due("count(7)", 1);
        run("promise 5, 324 routes").load("net 6 0 5;" + "arc 0 1 1 1;".repeat(3) + "arc 1 2 1 1;".repeat(3)
                + "arc 2 3 1 1;".repeat(3) + "arc 3 4 1 1;".repeat(3) + "arc 4 5 1 1;".repeat(4), 16)
                .due("count(7)", 324);
    }

    private static void promise6() {
        run("promise 6, the numbers of an arc").load(NET, 5).each("arc(0, #)", 1, 0, 2, 7)
                .each("arc(2, #)", 1, 2, 4, 4).each("arc(4, #)", 2, 0, 1, 0).changesNothing("arc(4, 0)", 2);
        run("promise 6, the arc does not exist").load(NET, 5).refuses("arc(-1, 0)", Run.OUT).refuses("arc(5, 0)", Run.OUT)
                .refuses("arc(16, 3)", Run.OUT).refuses("arc(-2147483648, 0)", Run.OUT)
                .refuses("arc(2147483647, 0)", Run.OUT).due("arc(4, 0)", 2).due("arc(0, 0)", 1);
        run("promise 6, the last of 16 arcs").load("net 2 0 1;" + ARC.repeat(15) + "arc 1 0 5 6;", 16)
                .each("arc(15, #)", 1, 0, 5, 6).refuses("arc(16, 0)", Run.OUT);
        run("promise 6, any other what").load(NET, 5).refuses("arc(0, -1)", Run.ARGUMENT).refuses("arc(0, 4)", Run.ARGUMENT)
                .refuses("arc(0, 2147483647)", Run.ARGUMENT);
        run("promise 6, the exception named first").load(NET, 5).refuses("arc(5, 4)", Run.OUT)
                .refuses("arc(-1, -1)", Run.OUT);
        run("promise 6, an arc that was removed").load(NET, 5).make("removeArc(4)").refuses("arc(4, 0)", Run.OUT)
                .make("undo()").due("arc(4, 0)", 2);
    }

    /** "Adds an arc as the last one. The journey begins anew." */
    private static void promise7() {
        busy("promise 7, as the last one").due("addArc(1, 4, 99, 0)", 5).each("arc(5, #)", 1, 4, 99, 0)
                .each("count(#)", 5, 6, 1, 4, 3, 1, 2, 4, 1, 0, 3, 0).due("addArc(4, 0, 0, 99)", 6)
                .each("arc(6, #)", 4, 0, 0, 99).each("arc(0, #)", 1, 0, 2, 7);
        busy("promise 7, the journey begins anew").due("count(11)", 1).make("addArc(3, 2, 1, 1)")
                .due("count(8)", 1).due("count(9)", 0).due("count(10)", 3).due("count(11)", 0).refuses("grief(0)", Run.OUT)
                .due("step(2, false)", 4);
        run("promise 7, the first arc").due("addArc(1, 0, 5, 6)", 0).each("arc(0, #)", 1, 0, 5, 6).due("count(7)", 0)
                .due("addArc(0, 1, 5, 6)", 1).due("count(7)", 1).due("addArc(0, 1, 5, 6)", 2).due("count(7)", 2);
        run("promise 7, the numbers of a text and of calls are the same").load("net 8 0 7;", 0)
                .due("addArc(0, 7, 0, 0)", 0).due("addArc(7, 0, 99, 99)", 1).each("arc(1, #)", 7, 0, 99, 99);
        busy("promise 7, one change").undoes("addArc(1, 4, 1, 1)");
    }

    private static void promise7SixteenArcs() {
        Run x = run("promise 7, there are 16 arcs").load("net 2 0 1;" + ARC.repeat(14), 14).due("addArc(0, 1, 2, 3)", 14)
                .due("addArc(0, 1, 4, 5)", 15).due("count(1)", 16).refuses("addArc(0, 1, 6, 7)", Run.STATE)
                .refuses("addArc(1, 0, 0, 0)", Run.STATE);
        x.each("arc(15, #)", 0, 1, 4, 5).due("removeArc(3)", 15).due("addArc(0, 1, 6, 7)", 15)
                .refuses("addArc(0, 1, 6, 7)", Run.STATE).due("undo()", 4).due("addArc(0, 1, 8, 9)", 15)
                .each("arc(15, #)", 0, 1, 8, 9);
        run("promise 7, 16 arcs, the exception named first").load("net 2 0 1;" + ARC.repeat(16), 16)
                .refuses("addArc(2, 0, 1, 1)", Run.OUT).refuses("addArc(0, 2, 1, 1)", Run.OUT)
                .refuses("addArc(1, 1, 1, 1)", Run.ARGUMENT).refuses("addArc(0, 1, 100, 1)", Run.ARGUMENT)
                .refuses("addArc(0, 1, 1, -1)", Run.ARGUMENT);
    }

    private static void promise7Refuses() {
        busy("promise 7, one of both nodes does not exist").refuses("addArc(-1, 0, 1, 1)", Run.OUT)
                .refuses("addArc(0, -1, 1, 1)", Run.OUT).refuses("addArc(5, 0, 1, 1)", Run.OUT)
                .refuses("addArc(0, 5, 1, 1)", Run.OUT).refuses("addArc(2147483647, 0, 1, 1)", Run.OUT)
                .refuses("addArc(0, -2147483648, 1, 1)", Run.OUT).due("addArc(4, 0, 1, 1)", 5).due("addArc(0, 4, 1, 1)", 6);
        run("promise 7, one of 2 nodes does not exist").refuses("addArc(0, 2, 1, 1)", Run.OUT)
                .refuses("addArc(2, 0, 1, 1)", Run.OUT);
        run("promise 7, one of 8 nodes does not exist").load("net 8 0 7;", 0).refuses("addArc(0, 8, 1, 1)", Run.OUT)
                .refuses("addArc(8, 0, 1, 1)", Run.OUT);
        busy("promise 7, both nodes are the same").refuses("addArc(0, 0, 1, 1)", Run.ARGUMENT)
                .refuses("addArc(4, 4, 1, 1)", Run.ARGUMENT);
        busy("promise 7, cost or extra is out of range").refuses("addArc(3, 4, -1, 1)", Run.ARGUMENT)
                .refuses("addArc(3, 4, 100, 1)", Run.ARGUMENT).refuses("addArc(3, 4, 1, -1)", Run.ARGUMENT)
                .refuses("addArc(3, 4, 1, 100)", Run.ARGUMENT).refuses("addArc(3, 4, 2147483647, 1)", Run.ARGUMENT)
                .refuses("addArc(3, 4, 1, -2147483648)", Run.ARGUMENT).due("addArc(3, 4, 0, 99)", 5)
                .due("addArc(3, 4, 99, 0)", 6);
    }

    /** "If several exceptions apply, the one named first is thrown." */
    private static void promise7Order() {
        busy("promise 7, no node before the same node").refuses("addArc(5, 5, 1, 1)", Run.OUT)
                .refuses("addArc(-1, -1, 1, 1)", Run.OUT);
        busy("promise 7, no node before a cost out of range").refuses("addArc(0, 5, 100, -1)", Run.OUT)
                .refuses("addArc(-1, 0, 100, -1)", Run.OUT);
    }

    private static void promise8() {
        busy("promise 8, an arc behind all others in use").due("removeArc(3)", 4).each("arc(3, #)", 2, 0, 1, 0)
                .refuses("arc(4, 0)", Run.OUT).each("count(#)", 5, 4, 1, 4, 3, 1, 2, 2, 1, 0, 3, 0).due("reason()", 1);
        run("promise 8, the first, the last and the only arc").load(NET, 5).due("removeArc(0)", 4)
                .each("arc(0, #)", 0, 4, 3, 1).each("arc(3, #)", 2, 0, 1, 0).due("removeArc(3)", 3)
                .each("arc(2, #)", 2, 4, 0, 9).due("removeArc(1)", 2).each("arc(1, #)", 2, 4, 0, 9)
                .due("removeArc(0)", 1).each("arc(0, #)", 2, 4, 0, 9).due("removeArc(0)", 0).due("count(7)", 0)
                .refuses("removeArc(0)", Run.OUT);
        busy("promise 8, the journey begins anew").make("removeArc(3)").due("count(8)", 1).due("count(9)", 0)
                .due("count(10)", 3).due("count(11)", 0).refuses("grief(0)", Run.OUT);
        run("promise 8, an arc on which the journey went").load(NET, 5).make("step(0, true)", "step(1, false)")
                .due("removeArc(0)", 4).due("count(8)", 1).due("count(9)", 0).due("step(1, false)", 4);
        busy("promise 8, one change").undoes("removeArc(3)").due("arc(3, 3)", 9);
    }

    /** "those behind it get numbers that are lower by 1, also in the draft and in told routes" */
    private static void promise8Renumbers() {
        run("promise 8, numbers lower by 1 in told routes and in the draft").load(NET + "route 2 4 1;route 2 3;", 5)
                .make("draft(2)", "draft(4)").due("removeArc(0)", 4).each("routeArc(0, #)", 1, 3, 0)
                .each("routeArc(1, #)", 1, 2).due("draft(0)", 4).due("reason()", 2).make("forget(0)").due("reason()", 0)
                .due("tell()", 1).each("routeArc(1, #)", 1, 3, 0);
        run("promise 8, arcs before it keep their numbers").load("net 2 0 1;arc 0 1 5 1;arc 0 1 4 1;arc 0 1 6 1;route 0;"
                + "route 2;", 3).make("draft(0)").due("removeArc(1)", 2).due("routeArc(0, 0)", 0).due("routeArc(1, 0)", 1)
                .due("route(1, 1)", 6).due("reason()", 2);
        Run most = run("promise 8, the first of 16 arcs, six told routes").load("net 2 0 1;" + "arc 1 0 3 3;".repeat(9)
                + "arc 0 1 4 4;".repeat(7) + "route 10;route 11;route 12;route 13;route 14;route 15;", 16).make("draft(9)");
        most.due("removeArc(0)", 15);
        for (int route = 0; route < 6; route++) {
            most.due("routeArc(" + route + ", 0)", 9 + route).due("route(" + route + ", 1)", 4);
        }
        most.refuses("removeArc(8)", Run.STATE).refuses("removeArc(14)", Run.STATE).due("removeArc(7)", 14)
                .due("removeArc(6)", 13).refuses("removeArc(6)", Run.STATE);
    }

    private static void promise8Refuses() {
        busy("promise 8, the arc does not exist").refuses("removeArc(-1)", Run.OUT).refuses("removeArc(5)", Run.OUT)
                .refuses("removeArc(16)", Run.OUT).refuses("removeArc(-2147483648)", Run.OUT)
                .refuses("removeArc(2147483647)", Run.OUT);
        run("promise 8, no arc exists").refuses("removeArc(0)", Run.OUT);
        busy("promise 8, a told route has it").refuses("removeArc(0)", Run.STATE).refuses("removeArc(1)", Run.STATE);
        busy("promise 8, the draft has it").refuses("removeArc(2)", Run.STATE).refuses("removeArc(4)", Run.STATE);
        run("promise 8, the draft and a told route have it").load(NET + "route 2 3;", 5).make("draft(2)")
                .refuses("removeArc(2)", Run.STATE).make("forget(0)").refuses("removeArc(2)", Run.STATE)
                .make("drop()").due("removeArc(2)", 4);
        String chain = "net 8 0 7;arc 0 1 1 1;arc 1 2 1 1;arc 2 3 1 1;arc 3 4 1 1;arc 4 5 1 1;arc 5 6 1 1;arc 6 7 1 1;";
        for (int arc = 0; arc < 7; arc++) {
            run("promise 8, a told route of 7 arcs has it").load(chain + "route 0 1 2 3 4 5 6;", 7)
                    .due("removeArc(" + arc + ")", "throws." + Run.STATE);
            run("promise 8, a draft of 7 arcs has it").load(chain, 7).make("draft(0)", "draft(1)", "draft(2)", "draft(3)",
                    "draft(4)", "draft(5)", "draft(6)").due("removeArc(" + arc + ")", "throws." + Run.STATE);
        }
        String six = "net 2 0 1;" + ARC.repeat(7) + "route 0;route 1;route 2;route 3;route 4;route 5;";
        for (int arc = 0; arc < 6; arc++) {
            run("promise 8, the told route " + arc + " has it").load(six, 7).refuses("removeArc(" + arc + ")", Run.STATE);
        }
        run("promise 8, no told route has it").load(six, 7).due("removeArc(6)", 6);
    }

    /** Nothing of a draft or route that is gone keeps an arc. */
    private static void promise8NotInUse() {
        run("promise 8, an arc that was dropped").load(NET, 5).make("draft(2)", "draft(3)", "drop()").due("removeArc(3)", 4)
                .refuses("removeArc(2)", Run.STATE);
        run("promise 8, an arc of a route that was forgotten").load(NET + "route 0 1;route 2 3;", 5).make("forget(1)")
                .due("removeArc(3)", 4).due("removeArc(2)", 3).refuses("removeArc(1)", Run.STATE);
        run("promise 8, an arc of a draft that was told and forgotten").load(NET, 5)
                .make("draft(0)", "draft(1)", "tell()").refuses("removeArc(0)", Run.STATE).make("forget(0)")
                .due("removeArc(0)", 4);
        run("promise 8, an arc whose drop was undone").load(NET, 5).make("draft(2)", "drop()", "undo()")
                .refuses("removeArc(2)", Run.STATE);
    }

    /** "Changes the cost and the extra of an arc. The journey begins anew." */
    private static void promise9() {
        busy("promise 9, 100 * the cost plus the extra").due("setArc(0, 99, 0)", 207).due("setArc(0, 0, 99)", 9900)
                .due("setArc(0, 5, 6)", 99).due("setArc(0, 0, 0)", 506).due("setArc(0, 99, 99)", 0)
                .due("setArc(0, 1, 2)", 9999).each("arc(0, #)", 1, 0, 1, 2).each("arc(1, #)", 0, 4, 3, 1);
        busy("promise 9, the journey begins anew").make("setArc(3, 1, 1)").due("count(8)", 1).due("count(9)", 0)
                .due("count(10)", 3).due("count(11)", 0).refuses("grief(0)", Run.OUT);
        busy("promise 9, the last arc").due("setArc(4, 7, 8)", 100).each("arc(4, #)", 2, 0, 7, 8);
        busy("promise 9, the told route costs other than before").due("route(0, 1)", 5).make("setArc(1, 10, 20)")
                .due("route(0, 1)", 12).due("route(0, 2)", 39).due("cost(0, 2)", 32).due("routeArc(0, 1)", 1);
        busy("promise 9, one change").undoes("setArc(0, 3, 3)").undoes("setArc(0, 2, 7)");
    }

    private static void promise9Refuses() {
        busy("promise 9, the arc does not exist").refuses("setArc(-1, 1, 1)", Run.OUT).refuses("setArc(5, 1, 1)", Run.OUT)
                .refuses("setArc(2147483647, 1, 1)", Run.OUT).refuses("setArc(-2147483648, 1, 1)", Run.OUT);
        run("promise 9, no arc exists").refuses("setArc(0, 1, 1)", Run.OUT);
        run("promise 9, a 17th arc").load("net 2 0 1;" + ARC.repeat(16), 16).refuses("setArc(16, 1, 1)", Run.OUT)
                .due("setArc(15, 1, 2)", 101);
        busy("promise 9, cost or extra is out of range").refuses("setArc(0, -1, 1)", Run.ARGUMENT)
                .refuses("setArc(0, 100, 1)", Run.ARGUMENT).refuses("setArc(0, 1, -1)", Run.ARGUMENT)
                .refuses("setArc(0, 1, 100)", Run.ARGUMENT).refuses("setArc(0, 2147483647, 1)", Run.ARGUMENT)
                .refuses("setArc(0, 1, -2147483648)", Run.ARGUMENT).due("setArc(0, 0, 99)", 207)
                .due("setArc(0, 99, 0)", 99);
        busy("promise 9, the exception named first").refuses("setArc(5, 100, 1)", Run.OUT)
                .refuses("setArc(-1, 1, -1)", Run.OUT);
    }

    private static void promise10() {
        busy("promise 10, the previous budget").due("setBudget(0)", 3).due("count(4)", 0).due("count(10)", 0)
                .due("route(0, 2)", 5).due("setBudget(6)", 0).due("count(4)", 6).due("count(10)", 6)
                .due("route(0, 2)", 13).due("setBudget(1)", 6).due("route(0, 2)", 12).due("setBudget(1)", 1);
        busy("promise 10, the journey begins anew").make("setBudget(4)").due("count(8)", 1).due("count(9)", 0)
                .due("count(10)", 4).due("count(11)", 0).refuses("grief(0)", Run.OUT);
        busy("promise 10, the journey begins anew with the same budget").due("setBudget(3)", 3).due("count(8)", 1)
                .due("count(10)", 3).due("count(11)", 0);
        busy("promise 10, budget is out of range").refuses("setBudget(-1)", Run.ARGUMENT)
                .refuses("setBudget(7)", Run.ARGUMENT).refuses("setBudget(2147483647)", Run.ARGUMENT)
                .refuses("setBudget(-2147483648)", Run.ARGUMENT);
        for (int budget = 0; budget <= 6; budget++) {
            run("promise 10, 0 to 6").due("setBudget(" + budget + ")", 2).due("count(4)", budget);
        }
        busy("promise 10, one change").undoes("setBudget(0)").undoes("setBudget(3)");
    }

    /** What the changes of the network do not change. */
    private static void promisesKeepDraftAndRoutes() {
        for (String change : new String[] {"addArc(0, 2, 1, 1)", "removeArc(3)", "setArc(3, 5, 5)", "setBudget(1)"}) {
            busy("promises 7 to 10, the draft and the told routes stay: " + change).make(change).due("count(6)", 2)
                    .due("draft(1)", 4).due("reason()", 0).each("routeArc(0, #)", 0, 1).due("tell()", 1)
                    .due("routeArc(1, 0)", 2).due("routeArc(1, 2)", 1).due("count(5)", 2);
        }
    }
}
