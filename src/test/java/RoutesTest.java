/** Promises 22 to 26: shortest, robust, calm, bestArc and within. */
public final class RoutesTest {
    private static final Checks CHECKS = new Checks();
    /** All routes: 0 1, 0 5 3, 2 3 and 4, with worst costs 9, 10, 8 and 9 and regrets 3, 5, 4 and 5. */
    private static final String NET =
            "net 4 0 3;budget 1;arc 0 1 2 5;arc 1 3 2 0;arc 0 2 3 1;arc 2 3 3 2;arc 0 3 9 0;arc 1 2 0 4;";
    /** Arcs, but only from the target and in a circle. */
    private static final String NO_ROUTE = "net 3 0 2;arc 0 1 1 1;arc 1 0 1 1;arc 2 1 1 1;";
    private static final String CHAIN = "net 8 0 7;arc 0 1 99 99;arc 1 2 99 99;arc 2 3 99 99;arc 3 4 99 99;"
            + "arc 4 5 99 99;arc 5 6 99 99;arc 6 7 99 99;";

    public static void main(String[] args) {
        promise22();
        promise22Mask();
        promise23();
        promise23LeastWorst();
        promise23FewestArcs();
        promise23Order();
        promise24();
        promise24LeastRegret();
        promise24FewestArcs();
        promise24Order();
        promises23And24FollowChanges();
        promise25();
        promise25OutOfRange();
        promise26();
        CHECKS.end();
    }

    private static Run run(String name) {
        return new Run(CHECKS, name);
    }

    /** "The shortest cost against a delay is the least cost against it of all routes." */
    private static void promise22() {
        run("promise 22, against a delay").load(NET, 6).due("shortest(0)", 4).due("shortest(1)", 6).due("shortest(5)", 7)
                .due("shortest(13)", 9).due("shortest(2)", 4).changesNothing("shortest(13)", 9);
        run("promise 22, there is no route").refuses("shortest(0)", Run.NO_ELEMENT).load(NO_ROUTE, 3)
                .refuses("shortest(0)", Run.NO_ELEMENT).refuses("shortest(-1)", Run.NO_ELEMENT)
                .due("addArc(1, 2, 3, 4)", 3).due("shortest(0)", 4).due("shortest(-1)", 9).due("removeArc(3)", 3)
                .refuses("shortest(0)", Run.NO_ELEMENT);
        run("promise 22, the route of all nodes").load(CHAIN, 7).due("shortest(0)", 693).due("shortest(127)", 1386)
                .due("shortest(63)", 1287);
        run("promise 22, the way round").load("net 8 0 7;arc 6 7 1 1;arc 5 6 1 1;arc 4 5 1 1;arc 3 4 1 1;arc 2 3 1 1;"
                + "arc 1 2 1 1;arc 0 1 1 1;arc 0 7 14 0;", 8).due("shortest(0)", 7).due("shortest(127)", 14)
                .make("setArc(7, 13, 0)").due("shortest(127)", 13).due("shortest(126)", 13).due("shortest(62)", 12);
        run("promise 22, a cost of 0").load("net 2 0 1;arc 0 1 0 0;", 1).due("shortest(0)", 0).due("shortest(-1)", 0);
        run("promise 22, a circle does not help").load("net 3 0 2;arc 0 1 5 5;arc 1 0 0 0;arc 1 2 5 5;", 3)
                .due("shortest(-1)", 20);
        run("promise 22, told routes do not matter").load(NET + "route 4;", 6).due("shortest(0)", 4);
    }

    /** "the delay as a bit mask (the budget does not matter)", "Bits of a bit mask that stand for no arc do not matter." */
    private static void promise22Mask() {
        run("promise 22, the budget does not matter").load(NET + "budget 0;", 6).due("shortest(13)", 9)
                .make("setBudget(1)").due("shortest(13)", 9).make("setBudget(6)").due("shortest(13)", 9);
        run("promise 22, bits that stand for no arc do not matter").load(NET, 6).due("shortest(64)", 4).due("shortest(-64)", 4)
                .due("shortest(-51)", 9).due("shortest(-1)", 9).due("shortest(-2147483648)", 4).due("shortest(65536)", 4);
        run("promise 22, arc 15 and the bit behind it").load("net 2 0 1;" + "arc 0 1 9 9;".repeat(15) + "arc 0 1 2 3;", 16)
                .due("shortest(32768)", 5).due("shortest(65536)", 2).due("shortest(-32769)", 2).due("shortest(-1)", 5);
    }

    private static void promise23() {
        run("promise 23, the numbers 0 to 5").load(NET, 6).each("robust(#)", 2, 6, 8, 8, 4, 8).changesNothing("robust(4)", 4);
        for (int what = 0; what <= 5; what++) {
            run("promise 23, each number asked for first").load(NET, 6)
                    .due("robust(" + what + ")", new int[] {2, 6, 8, 8, 4, 8}[what]);
        }
        run("promise 23, any other what").load(NET, 6).refuses("robust(-1)", Run.ARGUMENT).refuses("robust(6)", Run.ARGUMENT)
                .refuses("robust(7)", Run.ARGUMENT).refuses("robust(2147483647)", Run.ARGUMENT)
                .refuses("robust(-2147483648)", Run.ARGUMENT);
        run("promise 23, there is no route").refuses("robust(0)", Run.NO_ELEMENT).load(NO_ROUTE, 3)
                .refuses("robust(0)", Run.NO_ELEMENT).refuses("robust(5)", Run.NO_ELEMENT).due("addArc(1, 2, 3, 4)", 3)
                .each("robust(#)", 2, 4, 9, 9, 0, 0);
        run("promise 23, the exception named first").load(NO_ROUTE, 3).refuses("robust(6)", Run.ARGUMENT)
                .refuses("robust(-1)", Run.ARGUMENT);
        run("promise 23, the only route, of all nodes").load(CHAIN + "budget 6;", 7).each("robust(#)", 7, 693, 1287, 63, 0, 0);
    }

    /** "the one with the least worst cost; of several the one with the least plain cost" */
    private static void promise23LeastWorst() {
        run("promise 23, the least worst cost").load("net 3 0 2;budget 1;arc 0 2 3 4;arc 0 1 4 1;arc 1 2 1 1;", 3)
                .due("bestArc(false, 0)", 1).each("robust(#)", 2, 5, 6, 2, 3, 2).make("setArc(0, 3, 3)")
                .due("bestArc(false, 0)", 0).each("robust(#)", 1, 3, 6, 1, 1, 1);
        run("promise 23, the least plain cost").load("net 2 0 1;budget 1;arc 0 1 5 1;arc 0 1 3 3;arc 0 1 4 2;", 3)
                .due("bestArc(false, 0)", 1).make("setArc(1, 3, 4)").due("bestArc(false, 0)", 2).make("setArc(2, 4, 3)")
                .due("bestArc(false, 0)", 0);
        run("promise 23, the least plain cost before the fewest arcs").load("net 3 0 2;budget 1;arc 0 2 4 1;arc 0 1 2 1;"
                + "arc 1 2 2 0;", 3).due("bestArc(false, 0)", 0).make("setArc(0, 5, 0)").due("bestArc(false, 0)", 1);
        run("promise 23, the budget counts").load("net 2 0 1;arc 0 1 3 5;arc 0 1 4 0;budget 0;", 2).due("bestArc(false, 0)", 0)
                .make("setBudget(1)").due("bestArc(false, 0)", 1);
    }

    /** "then the one with the fewest arcs" */
    private static void promise23FewestArcs() {
        run("promise 23, the fewest arcs").load("net 4 0 3;arc 0 1 1 1;arc 1 2 1 1;arc 2 3 1 1;arc 1 3 2 1;arc 0 3 3 2;", 5)
                .due("robust(0)", 1).due("bestArc(false, 0)", 4).due("removeArc(4)", 4).due("robust(0)", 2)
                .due("bestArc(false, 1)", 3).due("removeArc(3)", 3).due("robust(0)", 3);
        run("promise 23, the fewest arcs before the order").load("net 3 0 2;arc 0 1 1 0;arc 1 2 1 0;arc 0 2 2 0;", 3)
                .due("robust(0)", 1).due("bestArc(false, 0)", 2);
    }

    /** "then the first one in lexicographic order", "the first place at which they differ decides, the lower number .." */
    private static void promise23Order() {
        run("promise 23, the first arc decides").load("net 4 0 3;arc 0 1 1 1;arc 0 2 1 1;arc 2 3 1 1;arc 1 3 1 1;", 4)
                .each("bestArc(false, #)", 0, 3);
        run("promise 23, the second arc decides").load("net 3 0 2;arc 1 2 1 1;arc 1 2 1 1;arc 0 1 1 1;", 3)
                .each("bestArc(false, #)", 2, 0);
        run("promise 23, the third arc decides").load("net 4 0 3;arc 2 3 1 1;arc 2 3 1 1;arc 0 1 1 1;arc 1 2 1 1;", 4)
                .each("bestArc(false, #)", 2, 3, 0);
        run("promise 23, the lower number, not the first sign of it").load("net 3 0 2;arc 0 2 9 9;arc 1 2 1 1;"
                + "arc 1 0 1 1;arc 1 0 1 1;arc 1 0 1 1;arc 1 0 1 1;arc 1 0 1 1;arc 1 0 1 1;arc 1 0 1 1;arc 0 1 1 1;"
                + "arc 0 1 1 1;", 11).each("bestArc(false, #)", 9, 1);
        run("promise 23, the lowest of six").load("net 2 0 1;" + "arc 0 1 1 1;".repeat(6), 6).due("bestArc(false, 0)", 0);
    }

    private static void promise24() {
        run("promise 24, the numbers 0 to 5").load(NET, 6).each("calm(#)", 2, 4, 9, 1, 3, 1).changesNothing("calm(4)", 3);
        for (int what = 0; what <= 5; what++) {
            run("promise 24, each number asked for first").load(NET, 6)
                    .due("calm(" + what + ")", new int[] {2, 4, 9, 1, 3, 1}[what]);
        }
        run("promise 24, any other what").load(NET, 6).refuses("calm(-1)", Run.ARGUMENT).refuses("calm(6)", Run.ARGUMENT)
                .refuses("calm(7)", Run.ARGUMENT).refuses("calm(2147483647)", Run.ARGUMENT)
                .refuses("calm(-2147483648)", Run.ARGUMENT);
        run("promise 24, there is no route").refuses("calm(0)", Run.NO_ELEMENT).load(NO_ROUTE, 3)
                .refuses("calm(0)", Run.NO_ELEMENT).refuses("calm(5)", Run.NO_ELEMENT).due("addArc(1, 2, 3, 4)", 3)
                .each("calm(#)", 2, 4, 9, 9, 0, 0);
        run("promise 24, the exception named first").load(NO_ROUTE, 3).refuses("calm(6)", Run.ARGUMENT)
                .refuses("calm(-1)", Run.ARGUMENT);
        run("promise 24, without budget").load(NET + "budget 0;", 6).each("calm(#)", 2, 4, 4, 0, 0, 0);
        run("promise 24, the only route, of all nodes").load(CHAIN + "budget 6;", 7).each("calm(#)", 7, 693, 1287, 63, 0, 0);
    }

    /** "The calm route is the one with the least regret; of several the one with the least worst cost" */
    private static void promise24LeastRegret() {
        // The regrets are 6 - 3, 6 - 4 and 6 - 3.
        run("promise 24, the least regret").load("net 2 0 1;budget 1;arc 0 1 5 1;arc 0 1 3 3;arc 0 1 4 2;", 3)
                .due("bestArc(true, 0)", 1).due("calm(4)", 2);
        // The regrets are 9 - 6 and 7 - 3; the worst costs 9 and 7.
        run("promise 24, the least regret before the least worst cost").load("net 2 0 1;budget 1;arc 0 1 3 6;arc 0 1 6 1;", 2)
                .due("bestArc(true, 0)", 0).each("calm(#)", 1, 3, 9, 1, 3, 1).due("bestArc(false, 0)", 1);
        // The regret of 2 0 is 8 - 4, that of 1 0 is 10 - 7.
        run("promise 24, the least regret of routes with an arc in common").load("net 3 0 2;budget 1;arc 1 2 1 0;arc 0 1 3 6;"
                + "arc 0 1 6 1;", 3).each("calm(#)", 2, 4, 10, 2, 3, 2).each("robust(#)", 2, 7, 8, 4, 4, 4);
        // The regret of 3 2 1 is 15 - 11, that of 3 0 is 12 - 10.
        run("promise 24, the least regret of routes of other lengths").load("net 4 0 3;budget 1;arc 1 3 6 1;arc 2 3 5 3;"
                + "arc 1 2 0 5;arc 0 1 5 7;", 4).each("calm(#)", 2, 11, 18, 8, 2, 1).each("robust(#)", 3, 10, 17, 8, 4, 4);
        // Both regrets are 3; the worst costs are 11 and 10.
        run("promise 24, the least worst cost").load("net 2 0 1;budget 1;arc 0 1 7 4;arc 0 1 8 2;", 2)
                .each("calm(#)", 1, 8, 10, 2, 3, 2).make("setArc(1, 8, 3)").each("calm(#)", 1, 7, 11, 1, 3, 1);
        // Both regrets are 4 and both worst costs 9.
        run("promise 24, the least plain cost").load("net 2 0 1;budget 1;arc 0 1 6 3;arc 0 1 5 4;arc 0 1 5 9;", 3)
                .each("calm(#)", 1, 5, 9, 2, 4, 2);
        int[] calm = {0, 0, 0, 3, 3};
        for (int budget = 0; budget <= 4; budget++) {
            // The regrets are 4 for each delayed arc of 0 1 2, up to the budget, and 10 for 3.
            run("promise 24, the budget " + budget).load("net 4 0 3;arc 0 1 0 4;arc 1 2 0 4;arc 2 3 0 4;arc 0 3 10 0;budget "
                    + budget + ";", 4).due("calm(4)", new int[] {0, 0, 0, 2, 2}[budget]).due("bestArc(true, 0)", 0)
                    .due("bestArc(false, 0)", calm[budget]);
        }
    }

    /** "then as told for the robust route": the least plain cost, the fewest arcs */
    private static void promise24FewestArcs() {
        run("promise 24, the fewest arcs before the order").load("net 3 0 2;arc 0 1 1 0;arc 1 2 1 0;arc 0 2 2 0;", 3)
                .due("calm(0)", 1).due("bestArc(true, 0)", 2).due("removeArc(2)", 2).due("calm(0)", 2);
        run("promise 24, the least plain cost before the fewest arcs").load("net 3 0 2;budget 1;arc 0 2 6 3;arc 0 1 5 4;"
                + "arc 1 2 0 0;arc 1 2 0 4;arc 0 1 5 9;", 5).each("calm(#)", 2, 5, 9, 2, 4, 2).each("bestArc(true, #)", 1, 2);
    }

    /** "then the first one in lexicographic order" */
    private static void promise24Order() {
        run("promise 24, the first arc decides").load("net 4 0 3;arc 0 1 1 1;arc 0 2 1 1;arc 2 3 1 1;arc 1 3 1 1;", 4)
                .each("bestArc(true, #)", 0, 3);
        run("promise 24, the second arc decides").load("net 3 0 2;arc 1 2 1 1;arc 1 2 1 1;arc 0 1 1 1;", 3)
                .each("bestArc(true, #)", 2, 0);
        run("promise 24, the lower number, not the first sign of it").load("net 3 0 2;arc 0 2 9 9;arc 1 2 1 1;"
                + "arc 1 0 1 1;arc 1 0 1 1;arc 1 0 1 1;arc 1 0 1 1;arc 1 0 1 1;arc 1 0 1 1;arc 1 0 1 1;arc 0 1 1 1;"
                + "arc 0 1 1 1;", 11).each("bestArc(true, #)", 9, 1);
    }

    private static void promises23And24FollowChanges() {
        run("promises 23 and 24, after each change").load(NET, 6).due("robust(2)", 8).due("calm(4)", 3)
                .due("addArc(0, 3, 1, 1)", 6).due("robust(2)", 2).due("calm(4)", 0).due("removeArc(6)", 6)
                .due("robust(2)", 8).due("calm(4)", 3).make("setBudget(0)").due("robust(2)", 4).due("calm(4)", 0)
                .make("undo()").due("robust(2)", 8).due("calm(4)", 3).make("setArc(3, 50, 0)").due("robust(2)", 9)
                .due("calm(4)", 0).make("undo()").due("robust(2)", 8).due("calm(4)", 3).load(NO_ROUTE, 3)
                .refuses("robust(2)", Run.NO_ELEMENT).refuses("calm(4)", Run.NO_ELEMENT).make("undo()")
                .each("robust(#)", 2, 6, 8, 8, 4, 8).each("calm(#)", 2, 4, 9, 1, 3, 1);
        Run often = run("promises 23 and 24, up to the 512th call").load("net 6 0 5;" + "arc 0 1 1 1;".repeat(3)
                + "arc 1 2 1 1;".repeat(3) + "arc 2 3 1 1;".repeat(3) + "arc 3 4 1 1;".repeat(3) + "arc 4 5 1 1;".repeat(4), 16);
        for (int round = 0; round < 166; round++) {
            int cost = round % 2;
            often.make("setArc(0, " + cost + ", 1)").due("robust(2)", 6 + cost).due("calm(1)", 4 + cost);
        }
        run("promises 23 and 24, told routes do not matter").load(NET + "route 4;", 6).each("robust(#)", 2, 6, 8, 8, 4, 8)
                .each("calm(#)", 2, 4, 9, 1, 3, 1);
    }

    private static void promise25() {
        run("promise 25, an arc of the robust or of the calm route").load(NET, 6).each("bestArc(false, #)", 2, 3)
                .each("bestArc(true, #)", 0, 1).changesNothing("bestArc(true, 1)", 1);
        run("promise 25, of the calm route first").load(NET, 6).due("bestArc(true, 1)", 1).due("bestArc(false, 1)", 3)
                .due("bestArc(true, 0)", 0).due("bestArc(false, 0)", 2);
        run("promise 25, the last of 7 arcs").load(CHAIN, 7).each("bestArc(false, #)", 0, 1, 2, 3, 4, 5, 6)
                .each("bestArc(true, #)", 0, 1, 2, 3, 4, 5, 6);
    }

    /** "if it has not so many arcs (also if there is no route)" */
    private static void promise25OutOfRange() {
        for (boolean calm : new boolean[] {false, true}) {
            String arc = "bestArc(" + calm + ", ";
            run("promise 25, it has not so many arcs").load(NET, 6).refuses(arc + "2)", Run.OUT).refuses(arc + "-1)", Run.OUT)
                    .refuses(arc + "7)", Run.OUT).refuses(arc + "2147483647)", Run.OUT)
                    .refuses(arc + "-2147483648)", Run.OUT);
            run("promise 25, it has not an eighth arc").load(CHAIN, 7).refuses(arc + "7)", Run.OUT);
            run("promise 25, there is no route").refuses(arc + "0)", Run.OUT).load(NO_ROUTE, 3).refuses(arc + "0)", Run.OUT)
                    .refuses(arc + "-1)", Run.OUT);
            run("promise 25, a shorter route than before").load(NET, 6).due(arc + "1)", calm ? 1 : 3)
                    .make("addArc(0, 3, 0, 0)").due(arc + "0)", 6).refuses(arc + "1)", Run.OUT)
                    .make("removeArc(6)").due(arc + "1)", calm ? 1 : 3);
        }
        run("promise 25, the two routes have other numbers of arcs").load("net 3 0 2;budget 1;arc 0 1 1 3;arc 1 2 2 0;"
                + "arc 0 2 6 0;", 3).due("robust(0)", 2).due("bestArc(false, 1)", 1).due("calm(0)", 2)
                .make("setArc(0, 1, 4)").due("robust(0)", 1).refuses("bestArc(false, 1)", Run.OUT)
                .due("calm(0)", 2).due("bestArc(true, 1)", 1);
    }

    /** "Counts the routes whose worst cost is at most a number." "any number" */
    private static void promise26() {
        Run net = run("promise 26, at most").load(NET, 6);
        int[] due = {0, 1, 3, 4, 4};
        for (int i = 0; i < due.length; i++) {
            net.due("within(" + (7 + i) + ")", due[i]);
        }
        net.due("within(0)", 0).due("within(-1)", 0).due("within(-2147483648)", 0).due("within(2147483647)", 4)
                .changesNothing("within(9)", 3);
        run("promise 26, a worst cost of 0").load("net 2 0 1;arc 0 1 0 0;arc 0 1 0 1;", 2).due("within(0)", 1)
                .due("within(1)", 2).due("within(-1)", 0);
        run("promise 26, the budget counts").load("net 2 0 1;arc 0 1 3 5;budget 0;", 1).due("within(3)", 1)
                .due("within(2)", 0).make("setBudget(1)").due("within(7)", 0).due("within(8)", 1);
        run("promise 26, no route").due("within(2147483647)", 0).load(NO_ROUTE, 3).due("within(2147483647)", 0)
                .due("within(0)", 0);
        run("promise 26, the greatest worst cost").load(CHAIN + "budget 6;", 7).due("within(1286)", 0).due("within(1287)", 1);
    }
}
