/** Promises 11 to 16: draft, drop, reason, tell, forget and routeArc. */
public final class ToldTest {
    private static final Checks CHECKS = new Checks();
    /** All routes: 0 1, 0 5 3, 2 3 and 4. */
    private static final String NET =
            "net 4 0 3;budget 1;arc 0 1 2 5;arc 1 3 2 0;arc 0 2 3 1;arc 2 3 3 2;arc 0 3 9 0;arc 1 2 0 4;";
    private static final String SIX = "net 2 0 1;" + "arc 0 1 1 1;".repeat(8)
            + "route 0;route 1;route 2;route 3;route 4;route 5;";
    private static final String CHAIN = "net 8 0 7;arc 0 1 1 1;arc 1 2 1 1;arc 2 3 1 1;arc 3 4 1 1;arc 4 5 1 1;"
            + "arc 5 6 1 1;arc 6 7 1 1;arc 4 3 1 1;arc 4 2 1 1;arc 6 0 1 1;arc 7 1 1 1;arc 6 1 1 1;";

    public static void main(String[] args) {
        promise11();
        promise11Begins();
        promise11Node();
        promise11Target();
        promise11OutOfRange();
        promise12();
        promise13();
        promise13Six();
        promise14();
        promise14Refuses();
        promise15();
        promise15Numbers();
        promise16();
        CHECKS.end();
    }

    private static Run run(String name) {
        return new Run(CHECKS, name);
    }

    /** "Appends an arc to the draft.", "Returns the node to which the draft leads then." */
    private static void promise11() {
        run("promise 11, the node to which the draft leads then").load(NET, 6).due("draft(0)", 1).due("count(6)", 1)
                .due("draft(5)", 2).due("count(6)", 2).due("draft(3)", 3).due("count(6)", 3).due("tell()", 0)
                .each("routeArc(0, #)", 0, 5, 3);
        Run chain = run("promise 11, the longest draft").load(CHAIN, 12);
        for (int arc = 0; arc < 7; arc++) {
            chain.due("draft(" + arc + ")", arc + 1).due("count(6)", arc + 1);
        }
        chain.due("reason()", 0).due("tell()", 0).due("route(0, 0)", 7);
        run("promise 11, the highest arc").load("net 2 0 1;" + "arc 0 1 1 1;".repeat(16), 16).due("draft(15)", 1)
                .due("tell()", 0).due("routeArc(0, 0)", 15);
        run("promise 11, the draft does not move the journey").load(NET, 6).make("draft(0)").due("count(8)", 0)
                .due("count(9)", 0).due("count(11)", 0).make("step(2, true)", "draft(5)").due("count(8)", 2)
                .due("count(9)", 4).due("count(10)", 0).due("count(11)", 1);
        run("promise 11, one change").load(NET, 6).undoes("draft(0)").make("draft(0)").undoes("draft(5)").undoes("draft(1)");
    }

    /** "the arc does not begin where the draft is (the source at first)" */
    private static void promise11Begins() {
        run("promise 11, not at the source").load(NET, 6).refuses("draft(1)", Run.STATE).refuses("draft(3)", Run.STATE)
                .refuses("draft(5)", Run.STATE).due("draft(2)", 2);
        run("promise 11, at a source that is not node 0").load("net 3 2 0;arc 0 1 1 1;arc 2 1 1 1;arc 1 0 1 1;", 3)
                .refuses("draft(0)", Run.STATE).refuses("draft(2)", Run.STATE).due("draft(1)", 1)
                .refuses("draft(0)", Run.STATE).due("draft(2)", 0);
        run("promise 11, not where the draft is").load(NET, 6).make("draft(0)").refuses("draft(3)", Run.STATE)
                .refuses("draft(0)", Run.STATE).refuses("draft(2)", Run.STATE).refuses("draft(4)", Run.STATE)
                .due("draft(1)", 3);
        run("promise 11, not where the journey is").load(NET, 6).make("step(0, false)").refuses("draft(1)", Run.STATE)
                .due("draft(0)", 1);
        run("promise 11, where the draft is after drop").load(NET, 6).make("draft(0)", "draft(5)", "drop()")
                .refuses("draft(3)", Run.STATE).due("draft(1)", 3).make("drop()", "drop()").refuses("draft(1)", Run.STATE)
                .due("draft(2)", 2);
        run("promise 11, where the draft is after tell").load(NET, 6).make("draft(4)", "tell()")
                .refuses("draft(1)", Run.STATE).due("draft(0)", 1);
    }

    /** "it leads to a node of the draft" */
    private static void promise11Node() {
        run("promise 11, back to the source").load("net 3 1 2;arc 1 0 1 1;arc 0 1 1 1;arc 0 2 1 1;", 3).make("draft(0)")
                .refuses("draft(1)", Run.STATE).due("draft(2)", 2);
        Run chain = run("promise 11, to a node of the draft").load(CHAIN, 12).make("draft(0)", "draft(1)", "draft(2)",
                "draft(3)");
        chain.refuses("draft(7)", Run.STATE).refuses("draft(8)", Run.STATE).make("draft(4)", "draft(5)")
                .refuses("draft(9)", Run.STATE).refuses("draft(11)", Run.STATE).due("draft(6)", 7);
        run("promise 11, a node of the draft before is free after drop").load("net 4 0 3;arc 0 1 1 1;arc 0 2 1 1;"
                + "arc 2 1 1 1;arc 1 2 1 1;", 4).make("draft(0)", "draft(3)").refuses("draft(2)", Run.STATE)
                .make("drop()", "drop()", "draft(1)").due("draft(2)", 1).refuses("draft(3)", Run.STATE);
        run("promise 11, a node of a told route does not matter").load(NET + "route 0 5 3;", 6).due("draft(0)", 1)
                .due("draft(5)", 2).due("draft(3)", 3);
    }

    /** "the draft has reached the target" */
    private static void promise11Target() {
        run("promise 11, the draft has reached the target").load(CHAIN + "arc 7 4 1 1;arc 0 7 1 1;", 14).due("draft(13)", 7)
                .refuses("draft(10)", Run.STATE).refuses("draft(12)", Run.STATE).refuses("draft(0)", Run.STATE)
                .due("drop()", 0).due("draft(0)", 1);
        run("promise 11, one arc before the target").load(NET, 6).make("draft(0)", "draft(5)").due("draft(3)", 3)
                .refuses("draft(3)", Run.STATE).refuses("draft(4)", Run.STATE);
    }

    private static void promise11OutOfRange() {
        run("promise 11, the arc does not exist").load(NET, 6).refuses("draft(-1)", Run.OUT).refuses("draft(6)", Run.OUT)
                .refuses("draft(16)", Run.OUT).refuses("draft(-2147483648)", Run.OUT).refuses("draft(2147483647)", Run.OUT);
        run("promise 11, no arc exists").refuses("draft(0)", Run.OUT);
        run("promise 11, the exception named first").load(NET, 6).make("draft(4)").refuses("draft(6)", Run.OUT)
                .refuses("draft(-1)", Run.OUT);
    }

    /** "Takes the last arc away from the draft." */
    private static void promise12() {
        run("promise 12, it is empty").load(NET, 6).refuses("drop()", Run.STATE).make("draft(0)").due("drop()", 0)
                .refuses("drop()", Run.STATE);
        run("promise 12, the number of its arcs afterwards").load(NET, 6).make("draft(0)", "draft(5)", "draft(3)")
                .due("drop()", 2).due("count(6)", 2).due("draft(3)", 3).due("drop()", 2).due("drop()", 1)
                .due("draft(1)", 3).due("drop()", 1).due("drop()", 0).due("count(6)", 0).refuses("drop()", Run.STATE);
        run("promise 12, it is empty after tell and load").load(NET, 6).make("draft(4)", "tell()")
                .refuses("drop()", Run.STATE).make("draft(0)").load(NET, 6).refuses("drop()", Run.STATE);
        run("promise 12, the journey goes on").load(NET, 6).make("draft(0)", "step(2, true)", "drop()").due("count(8)", 2)
                .due("count(9)", 4).due("count(10)", 0).due("count(11)", 1);
        run("promise 12, of 7 arcs").load(CHAIN, 12).make("draft(0)", "draft(1)", "draft(2)", "draft(3)", "draft(4)",
                "draft(5)", "draft(6)").due("drop()", 6).due("drop()", 5).due("drop()", 4).due("count(6)", 4);
        run("promise 12, the target alone can be dropped").load(NET, 6).make("draft(4)").due("reason()", 0).due("drop()", 0)
                .due("reason()", 1);
        run("promise 12, one change").load(NET, 6).make("draft(0)").undoes("drop()").make("draft(1)").undoes("drop()");
    }

    /** "1 if it has not reached the target; otherwise 2 if this route was told already; .." */
    private static void promise13() {
        run("promise 13, 1 for an empty draft").due("reason()", 1).load(NET, 6).changesNothing("reason()", 1);
        run("promise 13, 1 on the way").load(NET + "route 0 1;route 0 5 3;", 6).make("draft(0)").due("reason()", 1)
                .make("draft(5)").due("reason()", 1).make("draft(3)").due("reason()", 2);
        run("promise 13, 0 at the target").load(NET + "route 0 1;", 6).make("draft(0)", "draft(5)", "draft(3)")
                .changesNothing("reason()", 0).make("drop()").due("reason()", 1);
        run("promise 13, 2 if this route was told already").load(NET + "route 0 1;route 4;", 6).make("draft(4)")
                .changesNothing("reason()", 2).make("drop()", "draft(0)", "draft(1)").due("reason()", 2)
                .make("forget(1)").due("reason()", 2).make("forget(0)").due("reason()", 0);
        run("promise 13, another arc makes another route").load(NET + "route 0 1;", 6).make("addArc(1, 3, 2, 0)", "draft(0)",
                "draft(6)").due("reason()", 0);
        run("promise 13, the same first arc makes no told route").load(NET + "route 0 5 3;", 6).make("draft(0)", "draft(1)")
                .due("reason()", 0);
    }

    private static void promise13Six() {
        run("promise 13, 1 with six told routes").load(SIX, 8).due("reason()", 1);
        run("promise 13, 2 with six told routes").load(SIX, 8).make("draft(0)").due("reason()", 2)
                .make("drop()", "draft(5)").due("reason()", 2);
        run("promise 13, 3 if there are 6 told routes").load(SIX, 8).make("draft(6)").changesNothing("reason()", 3)
                .make("forget(3)").due("reason()", 0).make("tell()", "draft(3)").due("reason()", 3);
        run("promise 13, 0 with five told routes").load(SIX, 8).make("forget(5)", "draft(5)").due("reason()", 0);
        run("promise 13, 2 with five told routes").load(SIX, 8).make("forget(5)", "draft(4)").due("reason()", 2);
    }

    /** "Makes the draft the last told route; it is empty then." */
    private static void promise14() {
        run("promise 14, the last told route").load(NET + "route 4;", 6).make("draft(2)", "draft(3)").due("tell()", 1)
                .due("count(5)", 2).due("count(6)", 0).each("routeArc(1, #)", 2, 3).due("routeArc(0, 0)", 4)
                .due("reason()", 1).make("draft(0)", "draft(1)").due("tell()", 2).each("routeArc(2, #)", 0, 1)
                .each("routeArc(1, #)", 2, 3);
        run("promise 14, the draft does not change the told route any more").load(NET, 6).make("draft(4)", "tell()",
                "draft(0)", "draft(5)").due("routeArc(0, 0)", 4).due("route(0, 0)", 1);
        run("promise 14, the sixth told route").load(SIX, 8).make("forget(0)", "draft(7)").due("tell()", 5)
                .due("routeArc(5, 0)", 7).due("count(5)", 6);
        run("promise 14, the journey goes on").load(NET, 6).make("step(0, true)", "draft(4)", "tell()").due("count(11)", 1)
                .due("count(9)", 7);
        run("promise 14, one change").load(NET, 6).make("draft(4)").undoes("tell()").due("count(6)", 1).due("tell()", 0);
    }

    private static void promise14Refuses() {
        run("promise 14, an empty draft").refuses("tell()", Run.STATE).load(NET, 6).refuses("tell()", Run.STATE);
        run("promise 14, a draft on the way").load(NET, 6).make("draft(0)").refuses("tell()", Run.STATE).make("draft(5)")
                .refuses("tell()", Run.STATE).make("draft(3)").due("tell()", 0).refuses("tell()", Run.STATE);
        run("promise 14, told already").load(NET + "route 4;", 6).make("draft(4)").refuses("tell()", Run.STATE);
        run("promise 14, 6 told routes").load(SIX, 8).make("draft(6)").refuses("tell()", Run.STATE).make("forget(0)")
                .due("tell()", 5).make("draft(7)").refuses("tell()", Run.STATE);
    }

    /** "Forgets a told route; those behind it get numbers that are lower by 1." */
    private static void promise15() {
        run("promise 15, the route does not exist").load(SIX, 8).refuses("forget(-1)", Run.OUT)
                .refuses("forget(6)", Run.OUT).refuses("forget(2147483647)", Run.OUT)
                .refuses("forget(-2147483648)", Run.OUT).due("forget(5)", 5).refuses("forget(5)", Run.OUT);
        run("promise 15, no route exists").load(NET, 6).refuses("forget(0)", Run.OUT).make("draft(4)")
                .refuses("forget(0)", Run.OUT).make("tell()").due("forget(0)", 0).refuses("forget(0)", Run.OUT);
        run("promise 15, the draft and the journey stay").load(NET + "route 4;", 6).make("draft(0)", "step(2, true)")
                .due("forget(0)", 0).due("count(6)", 1).due("count(11)", 1).due("draft(1)", 3);
        run("promise 15, one change").load(NET + "route 4;route 0 1;route 2 3;", 6).undoes("forget(0)").undoes("forget(2)")
                .undoes("forget(1)");
    }

    private static void promise15Numbers() {
        run("promise 15, the first").load(SIX, 8).due("forget(0)", 5).each("routeArc(#, 0)", 1, 2, 3, 4, 5)
                .refuses("routeArc(5, 0)", Run.OUT);
        run("promise 15, one in the middle").load(SIX, 8).due("forget(2)", 5).each("routeArc(#, 0)", 0, 1, 3, 4, 5);
        run("promise 15, the last").load(SIX, 8).due("forget(5)", 5).each("routeArc(#, 0)", 0, 1, 2, 3, 4)
                .refuses("routeArc(5, 0)", Run.OUT);
        run("promise 15, all").load(SIX, 8).due("forget(0)", 5).due("forget(0)", 4).due("forget(0)", 3).due("forget(0)", 2)
                .due("forget(0)", 1).due("routeArc(0, 0)", 5).due("forget(0)", 0).refuses("chosen()", Run.NO_ELEMENT);
        run("promise 15, routes of other lengths move up").load(NET + "route 4;route 0 5 3;route 2 3;", 6)
                .due("forget(0)", 2).each("routeArc(0, #)", 0, 5, 3).each("routeArc(1, #)", 2, 3)
                .refuses("routeArc(1, 2)", Run.OUT).due("forget(0)", 1).each("routeArc(0, #)", 2, 3)
                .refuses("routeArc(0, 2)", Run.OUT);
    }

    private static void promise16() {
        run("promise 16, 0 for its first arc").load(NET + "route 0 5 3;route 4;", 6).each("routeArc(0, #)", 0, 5, 3)
                .changesNothing("routeArc(1, 0)", 4);
        run("promise 16, has not so many arcs").load(NET + "route 0 5 3;route 4;", 6).refuses("routeArc(0, -1)", Run.OUT)
                .refuses("routeArc(0, 3)", Run.OUT).refuses("routeArc(1, 1)", Run.OUT).refuses("routeArc(1, 7)", Run.OUT)
                .refuses("routeArc(0, 2147483647)", Run.OUT).refuses("routeArc(0, -2147483648)", Run.OUT);
        run("promise 16, a route of 7 arcs").load(CHAIN + "route 0 1 2 3 4 5 6;", 12).due("routeArc(0, 6)", 6)
                .refuses("routeArc(0, 7)", Run.OUT);
        run("promise 16, the route does not exist").load(NET + "route 0 5 3;route 4;", 6).refuses("routeArc(2, 0)", Run.OUT)
                .refuses("routeArc(-1, 0)", Run.OUT).refuses("routeArc(6, 0)", Run.OUT)
                .refuses("routeArc(2147483647, 0)", Run.OUT).refuses("routeArc(-2147483648, 0)", Run.OUT);
        run("promise 16, the draft is no told route").load(NET, 6).make("draft(4)").refuses("routeArc(0, 0)", Run.OUT);
    }
}
