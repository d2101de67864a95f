/** Promises 17 to 21: route, cost, chosen, beats and strain; the worst costs and regrets of told routes. */
public final class RouteTest {
    private static final Checks CHECKS = new Checks();
    /** All routes: 0 1, 0 5 3, 2 3 and 4, with the plain costs 4, 5, 6 and 9. */
    private static final String NET =
            "net 4 0 3;budget 1;arc 0 1 2 5;arc 1 3 2 0;arc 0 2 3 1;arc 2 3 3 2;arc 0 3 9 0;arc 1 2 0 4;";
    private static final String TOLD = NET + "route 4;route 0 1;route 0 5 3;route 2 3;";
    private static final String CHAIN = "net 8 0 7;arc 0 1 1 3;arc 1 2 1 5;arc 2 3 1 0;arc 3 4 1 5;arc 4 5 1 5;"
            + "arc 5 6 1 3;arc 6 7 1 4;route 0 1 2 3 4 5 6;";

    public static void main(String[] args) {
        promise17();
        promise17OutOfRange();
        promise17WorstCost();
        promise17Witness();
        promise17Regret();
        promise17FewestArcs();
        promise17LeastNumber();
        promise17ToldRegret();
        promise17Beaten();
        promise18();
        promise19();
        promise20();
        promise20OutOfRange();
        promise21();
        CHECKS.end();
    }

    private static Run run(String name) {
        return new Run(CHECKS, name);
    }

    private static void promise17() {
        // Against arc 0 the shortest cost is 6, against every other one it is 4.
        run("promise 17, the numbers 0 to 7").load(TOLD, 6).each("route(0, #)", 1, 9, 9, 0, 5, 0, 5, 3)
                .each("route(1, #)", 2, 4, 9, 1, 3, 1, 3, 1).each("route(2, #)", 3, 5, 10, 1, 5, 32, 5, 3)
                .each("route(3, #)", 2, 6, 8, 8, 4, 8, 4, 2);
        run("promise 17, each number asked for first").load(TOLD, 6).due("route(2, 5)", 32).due("route(0, 6)", 5)
                .due("route(1, 4)", 3).due("route(3, 5)", 8).due("route(2, 3)", 1).due("route(3, 7)", 2);
        for (int what = 0; what <= 7; what++) {
            run("promise 17, it changes nothing").load(TOLD, 6)
                    .changesNothing("route(2, " + what + ")", new int[] {3, 5, 10, 1, 5, 32, 5, 3}[what]);
        }
    }

    private static void promise17OutOfRange() {
        run("promise 17, the route does not exist").load(TOLD, 6).refuses("route(-1, 0)", Run.OUT)
                .refuses("route(4, 0)", Run.OUT).refuses("route(6, 7)", Run.OUT).refuses("route(2147483647, 4)", Run.OUT)
                .refuses("route(-2147483648, 6)", Run.OUT).due("route(3, 0)", 2).make("forget(3)")
                .refuses("route(3, 0)", Run.OUT);
        run("promise 17, no route exists").refuses("route(0, 0)", Run.OUT).load(NET, 6).make("draft(4)")
                .refuses("route(0, 0)", Run.OUT);
        run("promise 17, any other what").load(TOLD, 6).refuses("route(0, -1)", Run.ARGUMENT)
                .refuses("route(0, 8)", Run.ARGUMENT).refuses("route(0, 2147483647)", Run.ARGUMENT)
                .refuses("route(0, -2147483648)", Run.ARGUMENT);
        run("promise 17, the exception named first").load(TOLD, 6).refuses("route(4, 8)", Run.OUT)
                .refuses("route(-1, -1)", Run.OUT);
    }

    /** "as many as the budget tells (all if there are fewer)", "arcs with the extra 0 are left out" */
    private static void promise17WorstCost() {
        int[] witness = {0, 2, 2 + 8, 2 + 8 + 16, 2 + 8 + 16 + 64, 2 + 8 + 16 + 64 + 1, 2 + 8 + 16 + 64 + 1 + 32};
        int[] worst = {7, 12, 17, 22, 26, 29, 32};
        for (int budget = 0; budget <= 6; budget++) {
            // It is the only route, so it is the shortest one against every delay.
            run("promise 17, as many as the budget " + budget).load(CHAIN + "budget " + budget + ";", 7)
                    .each("route(0, #)", 7, 7, worst[budget], witness[budget], 0, 0, 0, 0);
        }
        run("promise 17, all if there are fewer").load("net 3 0 2;budget 2;arc 0 1 1 4;arc 1 2 1 3;arc 0 2 5 6;route 0 1;"
                + "route 2;", 3).due("route(0, 2)", 9).due("route(0, 3)", 3).due("route(1, 2)", 11).due("route(1, 3)", 4)
                .make("setBudget(1)").due("route(0, 2)", 6).due("route(0, 3)", 1).make("setBudget(6)")
                .due("route(0, 2)", 9).due("route(0, 3)", 3);
        run("promise 17, arcs with the extra 0 are left out").load("net 3 0 2;budget 2;arc 0 1 1 0;arc 1 2 1 1;route 0 1;", 2)
                .due("route(0, 3)", 2).due("route(0, 2)", 3).make("setArc(1, 1, 0)").due("route(0, 3)", 0)
                .due("route(0, 2)", 2).make("setArc(0, 1, 1)").due("route(0, 3)", 1);
    }

    /** "the arcs of the route with the greatest extras", "of several equal ones the lower numbers" */
    private static void promise17Witness() {
        run("promise 17, the lower number, not the first one on the route").load("net 3 0 2;budget 1;arc 1 2 1 5;"
                + "arc 0 1 1 5;route 1 0;", 2).due("route(0, 3)", 1).make("setArc(1, 1, 6)").due("route(0, 3)", 2)
                .make("setArc(1, 1, 4)").due("route(0, 3)", 1);
        run("promise 17, the lower number, here the first one on the route").load("net 3 0 2;budget 1;arc 0 1 1 5;"
                + "arc 1 2 1 5;route 0 1;", 2).due("route(0, 3)", 1).make("setArc(0, 1, 4)").due("route(0, 3)", 2);
        run("promise 17, the lower numbers of three, against the order of the route").load("net 4 0 3;budget 2;"
                + "arc 2 3 0 9;arc 1 2 0 9;arc 0 1 0 9;route 2 1 0;", 3).due("route(0, 3)", 3).make("setBudget(1)")
                .due("route(0, 3)", 1).make("setBudget(3)").due("route(0, 3)", 7);
        run("promise 17, extras count, not costs").load("net 3 0 2;budget 1;arc 0 1 50 1;arc 1 2 0 2;route 0 1;", 2)
                .due("route(0, 3)", 2).due("route(0, 2)", 52);
        run("promise 17, arc 15").load("net 2 0 1;budget 1;" + "arc 0 1 1 1;".repeat(15) + "arc 0 1 2 3;route 15;", 16)
                .due("route(0, 3)", 32768).due("route(0, 2)", 5);
        run("promise 17, arcs of other routes do not count").load("net 3 0 2;budget 1;arc 0 1 1 1;arc 1 2 1 0;arc 0 2 1 99;"
                + "route 0 1;", 3).due("route(0, 3)", 1).due("route(0, 2)", 3);
    }

    /** "over all delays that consist of at most as many arcs of this route as the budget tells (none of them, too)" */
    private static void promise17Regret() {
        int[] regret = {0, 4, 8, 12, 12, 12, 12};
        int[] witness = {0, 1, 3, 7, 7, 7, 7};
        for (int budget = 0; budget <= 6; budget++) {
            run("promise 17, at most as many arcs as the budget " + budget).load("net 4 0 3;arc 0 1 0 4;arc 1 2 0 4;"
                    + "arc 2 3 0 4;arc 0 3 0 0;route 0 1 2;budget " + budget + ";", 4).due("route(0, 4)", regret[budget])
                    .due("route(0, 5)", witness[budget]);
        }
        run("promise 17, none of them, too").load("net 2 0 1;budget 3;arc 0 1 5 0;arc 0 1 3 0;route 0;route 1;", 2)
                .due("route(0, 4)", 2).due("route(0, 5)", 0).due("route(1, 4)", 0).due("route(1, 5)", 0)
                .make("setArc(0, 5, 1)").due("route(0, 4)", 3).due("route(0, 5)", 1).make("setBudget(0)")
                .due("route(0, 4)", 2).due("route(0, 5)", 0);
        run("promise 17, the same delay for the other routes").load("net 3 0 2;budget 1;arc 0 1 0 9;arc 1 2 0 1;arc 1 2 0 0;"
                + "route 0 1;", 3).due("route(0, 4)", 1).due("route(0, 5)", 2).due("route(0, 3)", 1);
        run("promise 17, an arc that costs no regret").load("net 2 0 1;budget 1;arc 0 1 1 3;arc 0 1 4 0;route 0;", 2)
                .due("route(0, 4)", 0).due("route(0, 5)", 0).make("setArc(0, 1, 4)").due("route(0, 4)", 1)
                .due("route(0, 5)", 1);
        run("promise 17, the greatest regret").load("net 8 0 7;budget 6;arc 0 1 99 99;arc 1 2 99 99;arc 2 3 99 99;"
                + "arc 3 4 99 99;arc 4 5 99 99;arc 5 6 99 99;arc 6 7 99 99;arc 0 7 0 99;route 0 1 2 3 4 5 6;", 8)
                .each("route(0, #)", 7, 693, 1287, 63, 1287, 63, 0, 0);
    }

    /** "Its regret witness is, of these delays with the greatest difference, the one with the fewest arcs" */
    private static void promise17FewestArcs() {
        // Delayed are 2 alone, or any two arcs: in each case the regret is 3.
        run("promise 17, the fewest arcs before the least number").load("net 4 0 3;budget 2;arc 0 1 0 3;arc 1 2 0 3;"
                + "arc 2 3 0 6;arc 2 3 3 0;arc 0 2 3 0;route 0 1 2;", 5).each("route(0, #)", 3, 0, 9, 5, 3, 4, 0, 0)
                .make("setBudget(3)").due("route(0, 4)", 6).due("route(0, 5)", 7).make("setBudget(1)")
                .due("route(0, 4)", 3).due("route(0, 5)", 4).make("setArc(2, 0, 5)", "setBudget(2)")
                .due("route(0, 4)", 3).due("route(0, 5)", 3);
        run("promise 17, arcs with the extra 0 are not among the fewest").load("net 3 0 2;budget 2;arc 0 1 1 0;arc 1 2 1 4;"
                + "arc 0 2 0 0;route 0 1;", 3).due("route(0, 4)", 6).due("route(0, 5)", 2);
        run("promise 17, arcs that the shortest route has are not among the fewest").load("net 3 0 2;budget 2;arc 0 1 0 9;"
                + "arc 1 2 0 4;arc 1 2 0 0;route 0 1;", 3).due("route(0, 4)", 4).due("route(0, 5)", 2);
        run("promise 17, none is the fewest").load("net 2 0 1;budget 1;arc 0 1 3 9;route 0;", 1).due("route(0, 4)", 0)
                .due("route(0, 5)", 0);
    }

    /** "of several the least number as a bit mask" */
    private static void promise17LeastNumber() {
        String reverse = "net 4 0 3;arc 2 3 0 4;arc 1 2 0 4;arc 0 1 0 4;arc 0 3 0 0;route 2 1 0;";
        run("promise 17, the least number of one arc").load(reverse + "budget 1;", 4).due("route(0, 4)", 4)
                .due("route(0, 5)", 1);
        run("promise 17, the least number of two arcs").load(reverse + "budget 2;", 4).due("route(0, 4)", 8)
                .due("route(0, 5)", 3);
        run("promise 17, a greater regret before a lower number").load(reverse + "budget 1;", 4).make("setArc(1, 0, 5)")
                .due("route(0, 5)", 2).make("setArc(2, 0, 6)").due("route(0, 5)", 4);
        // The witness of the route is the delay of 0 and 2, but that of its regret is the one of 1 and 2.
        run("promise 17, other arcs than in the witness").load("net 4 0 3;budget 2;arc 0 1 0 3;arc 1 2 0 3;arc 2 3 0 6;"
                + "arc 0 3 6 0;arc 1 3 0 3;route 0 1 2;", 5).each("route(0, #)", 3, 0, 9, 5, 9, 6, 0, 0)
                .make("setBudget(1)").each("route(0, #)", 3, 0, 6, 4, 6, 4, 0, 0);
    }

    /** "instead of the shortest cost against a delay it takes the least cost against it of all told routes" */
    private static void promise17ToldRegret() {
        run("promise 17, of all told routes").load("net 2 0 1;budget 1;arc 0 1 5 5;arc 0 1 4 9;arc 0 1 1 1;route 0;route 1;", 3)
                .each("route(0, #)", 1, 5, 10, 1, 9, 1, 6, 1).each("route(1, #)", 1, 4, 13, 2, 12, 2, 8, 1)
                .make("setBudget(0)").each("route(0, #)", 1, 5, 5, 0, 4, 0, 1, 1)
                .each("route(1, #)", 1, 4, 4, 0, 3, 0, 0, 0).make("forget(1)").due("route(0, 6)", 0)
                .due("route(0, 4)", 4).make("draft(2)").due("route(0, 6)", 0).make("tell()").due("route(0, 6)", 4)
                .due("route(1, 6)", 0);
        run("promise 17, the only told route").load(NET + "route 4;", 6).due("route(0, 6)", 0).due("route(0, 4)", 5);
        // Without 0 1 the least told cost is 5, or 6 against arc 0, and 7 stands against 8 for arc 3.
        run("promise 17, without a forgotten route").load(TOLD, 6).make("forget(1)")
                .each("route(0, #)", 1, 9, 9, 0, 5, 0, 4, 2).each("route(1, #)", 3, 5, 10, 1, 5, 32, 4, 2)
                .each("route(2, #)", 2, 6, 8, 8, 4, 8, 2, 1);
        int[] told = {0, 4, 8, 12, 12};
        for (int budget = 0; budget <= 4; budget++) {
            run("promise 17, a told regret of at most as many arcs as the budget " + budget).load("net 4 0 3;arc 0 1 0 4;"
                    + "arc 1 2 0 4;arc 2 3 0 4;arc 0 3 0 0;route 0 1 2;route 3;budget " + budget + ";", 4)
                    .due("route(0, 6)", told[budget]).due("route(1, 6)", 0);
        }
    }

    /** "7: told routes that beat it" */
    private static void promise17Beaten() {
        run("promise 17, no route beats itself").load("net 2 0 1;arc 0 1 1 5;route 0;", 1).due("route(0, 7)", 0);
        run("promise 17, an equal cost does not beat").load("net 2 0 1;budget 1;arc 0 1 5 0;arc 0 1 3 2;arc 0 1 4 0;route 0;"
                + "route 1;route 2;", 3).due("route(0, 7)", 2).due("route(1, 7)", 1).due("route(2, 7)", 1);
        run("promise 17, five others beat it").load("net 2 0 1;" + "arc 0 1 1 0;".repeat(5)
                + "arc 0 1 2 0;route 0;route 1;route 2;route 3;route 4;route 5;", 6).due("route(5, 7)", 5)
                .due("route(0, 7)", 0);
    }

    /** "Returns the cost of a told route against a delay.", "the delay as a bit mask (the budget does not matter)" */
    private static void promise18() {
        run("promise 18, the budget does not matter").load(NET + "budget 0;route 0 5 3;", 6).due("cost(0, 0)", 5)
                .due("cost(0, 1)", 10).due("cost(0, 32)", 9).due("cost(0, 8)", 7).due("cost(0, 41)", 16)
                .changesNothing("cost(0, 41)", 16);
        run("promise 18, arcs of other routes").load(NET + "route 0 5 3;", 6).due("cost(0, 22)", 5).due("cost(0, 63)", 16);
        run("promise 18, bits that stand for no arc do not matter").load(NET + "route 0 5 3;", 6).due("cost(0, -64)", 5)
                .due("cost(0, 64)", 5).due("cost(0, 65536)", 5).due("cost(0, -2147483648)", 5).due("cost(0, -1)", 16)
                .due("cost(0, 2147483647)", 16);
        run("promise 18, arc 15 and the bit behind it").load("net 2 0 1;" + "arc 0 1 1 1;".repeat(15)
                + "arc 0 1 2 3;route 15;", 16).due("cost(0, 32768)", 5).due("cost(0, 65536)", 2).due("cost(0, 32767)", 2)
                .due("cost(0, -2147483648)", 2).due("cost(0, -32769)", 2);
        run("promise 18, the bit of an arc that was removed").load("net 2 0 1;arc 0 1 1 5;arc 0 1 1 7;route 0;", 2)
                .make("removeArc(1)").due("cost(0, 2)", 1).due("cost(0, 3)", 6);
        run("promise 18, the route does not exist").load(TOLD, 6).refuses("cost(4, 0)", Run.OUT).refuses("cost(-1, 0)", Run.OUT)
                .refuses("cost(6, -1)", Run.OUT).refuses("cost(2147483647, 0)", Run.OUT).due("cost(3, 0)", 6);
        run("promise 18, no route exists").load(NET, 6).make("draft(4)").refuses("cost(0, 0)", Run.OUT);
    }

    /** "the told route with the least told regret, of several the lowest number" */
    private static void promise19() {
        run("promise 19, there are no told routes").refuses("chosen()", Run.NO_ELEMENT).load(NET, 6)
                .refuses("chosen()", Run.NO_ELEMENT).make("draft(4)").refuses("chosen()", Run.NO_ELEMENT)
                .make("tell()").due("chosen()", 0).make("forget(0)").refuses("chosen()", Run.NO_ELEMENT);
        run("promise 19, the least told regret").load(NET + "route 4;route 0 5 3;route 2 3;route 0 1;", 6)
                .each("route(#, 6)", 5, 5, 4, 3).changesNothing("chosen()", 3).make("forget(3)")
                .each("route(#, 6)", 4, 4, 2).due("chosen()", 2).make("forget(2)").each("route(#, 6)", 4, 1)
                .due("chosen()", 1).make("forget(0)").due("chosen()", 0);
        String equal = "net 2 0 1;" + "arc 0 1 1 1;".repeat(6) + "route 5;route 4;route 3;route 2;route 1;route 0;";
        run("promise 19, of several the lowest number").load(equal, 6).each("route(#, 6)", 1, 1, 1, 1, 1, 1)
                .due("chosen()", 0).make("setArc(5, 2, 1)").each("route(#, 6)", 2, 1, 1, 1, 1, 1).due("chosen()", 1)
                .make("setArc(0, 0, 1)").each("route(#, 6)", 3, 2, 2, 2, 2, 0).due("chosen()", 5);
        run("promise 19, by told regret, not by regret").load("net 2 0 1;budget 1;arc 0 1 4 4;arc 0 1 6 0;arc 0 1 5 0;"
                + "route 0;route 1;", 3).each("route(#, 4)", 3, 2).each("route(#, 6)", 2, 2).due("chosen()", 0)
                .make("setArc(0, 4, 5)").each("route(#, 6)", 3, 2).due("chosen()", 1);
    }

    /** "if its cost against the witness of the other one is less than the worst cost of the other one" */
    private static void promise20() {
        String equal = "net 2 0 1;budget 1;arc 0 1 5 0;arc 0 1 3 2;arc 0 1 4 0;route 0;route 1;route 2;";
        run("promise 20, less, not equal").load(equal, 3).due("beats(0, 1)", false).due("beats(2, 1)", true)
                .due("beats(1, 0)", true).due("beats(0, 2)", false).due("beats(1, 2)", true)
                .changesNothing("beats(1, 2)", true).make("setArc(1, 3, 3)").due("beats(0, 1)", true)
                .make("setBudget(0)").due("beats(0, 1)", false).due("beats(2, 1)", false);
        run("promise 20, against the witness of the other one").load(TOLD, 6)
                .each("beats(0, #)", false, false, true, false).each("beats(1, #)", true, false, true, true)
                .each("beats(2, #)", true, false, false, true).each("beats(3, #)", true, true, true, false);
        run("promise 20, false for a route and itself").load("net 2 0 1;arc 0 1 1 5;arc 0 1 0 0;route 0;route 1;", 2)
                .due("beats(0, 0)", false).due("beats(1, 1)", false);
        run("promise 20, equal routes do not beat").load("net 2 0 1;arc 0 1 1 0;arc 0 1 1 0;route 0;route 1;", 2)
                .due("beats(0, 1)", false).due("beats(1, 0)", false);
        run("promise 20, each beats the other").load("net 2 0 1;arc 0 1 1 1;arc 0 1 1 1;route 0;route 1;", 2)
                .due("beats(0, 1)", true).due("beats(1, 0)", true);
    }

    private static void promise20OutOfRange() {
        run("promise 20, one of both routes does not exist").load(TOLD, 6).refuses("beats(4, 0)", Run.OUT)
                .refuses("beats(0, 4)", Run.OUT).refuses("beats(-1, 0)", Run.OUT).refuses("beats(0, -1)", Run.OUT)
                .refuses("beats(4, 4)", Run.OUT).refuses("beats(-1, -1)", Run.OUT).refuses("beats(2147483647, 0)", Run.OUT)
                .refuses("beats(0, -2147483648)", Run.OUT).due("beats(3, 0)", true).due("beats(0, 3)", false);
        run("promise 20, no route exists").refuses("beats(0, 0)", Run.OUT);
    }

    /** "the worst cost of a told route divided by its plain cost, both as floats", "1.0f if the plain cost is 0" */
    private static void promise21() {
        String net = "net 2 0 1;arc 0 1 3 7;arc 0 1 4 0;arc 0 1 0 9;arc 0 1 0 0;arc 0 1 1 0;route 0;route 1;route 2;route 3;"
                + "route 4;";
        run("promise 21, both as floats").load(net, 5).due("strain(0)", 10.0f / 3.0f).due("strain(1)", 1.0f)
                .changesNothing("strain(0)", 10.0f / 3.0f);
        run("promise 21, 1.0f if the plain cost is 0").load(net, 5).due("strain(2)", 1.0f).due("route(2, 2)", 9)
                .due("strain(3)", 1.0f).due("strain(4)", 1.0f).make("setArc(2, 1, 9)").due("strain(2)", 10.0f)
                .make("setArc(4, 1, 99)").due("strain(4)", 100.0f);
        run("promise 21, the budget counts").load(net + "budget 0;", 5).due("strain(0)", 1.0f);
        run("promise 21, all of it").load("net 3 0 2;budget 1;arc 0 1 3 4;arc 1 2 4 6;route 0 1;", 2)
                .due("strain(0)", 13.0f / 7.0f).make("setBudget(2)").due("strain(0)", 17.0f / 7.0f);
        run("promise 21, the route does not exist").load(net, 5).refuses("strain(5)", Run.OUT).refuses("strain(-1)", Run.OUT)
                .refuses("strain(6)", Run.OUT).refuses("strain(2147483647)", Run.OUT).refuses("strain(-2147483648)", Run.OUT);
        run("promise 21, no route exists").refuses("strain(0)", Run.OUT);
    }
}
