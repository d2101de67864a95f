/** Promises 27 to 32: value, bestNext, step, restart, promise and grief. */
public final class JourneyTest {
    private static final Checks CHECKS = new Checks();
    /** From 4 nothing leads to the target 3, which has an arc of its own. */
    private static final String NET = "net 5 0 3;budget 1;arc 0 1 2 5;arc 1 3 2 0;arc 0 2 3 1;arc 2 3 3 2;arc 0 3 9 0;"
            + "arc 1 2 0 4;arc 0 4 1 1;arc 3 0 1 1;";
    private static final String CIRCLE = "net 3 0 2;budget 2;arc 0 1 1 2;arc 1 0 3 4;arc 1 2 5 6;";
    private static final String CHAIN = "net 8 0 7;budget 6;arc 6 7 1 1;arc 5 6 1 2;arc 4 5 1 3;arc 3 4 1 4;arc 2 3 1 5;"
            + "arc 1 2 1 6;arc 0 1 1 7;";
    /** The value of 3 with 6 left is 142 by at most 28 steps, but 143 by fewer. */
    private static final String LONG = "net 8 3 7;arc 6 5 32 38;arc 2 5 22 50;arc 5 2 0 25;arc 2 5 0 35;arc 1 7 60 0;"
            + "arc 3 4 0 10;arc 5 7 0 95;arc 2 6 0 8;arc 1 0 6 0;arc 3 6 0 2;arc 6 3 0 0;arc 0 4 0 0;arc 4 3 0 3;"
            + "arc 0 1 0 55;arc 4 0 0 20;arc 6 2 0 11;";

    public static void main(String[] args) {
        promise27();
        promise27NoValue();
        promise27Delays();
        promise27Circles();
        promise27ManySteps();
        promise27OutOfRange();
        promise28();
        promise28Lowest();
        promise28OutOfRange();
        promise29();
        promise29Delayed();
        promise29Refuses();
        promise29TwentySteps();
        promise30();
        promise31();
        promise32();
        promise32OutOfRange();
        CHECKS.end();
    }

    private static Run run(String name) {
        return new Run(CHECKS, name);
    }

    private static void promise27() {
        // Over arc 0: 4, 9, 9; over arc 2: 6, 8, 9; over arc 4: 9.
        run("promise 27, the value of a node").load(NET, 8).each("value(0, #)", 4, 8, 9, 9, 9, 9, 9)
                .each("value(1, #)", 2, 2, 2, 2, 2, 2, 2).each("value(2, #)", 3, 5, 5, 5, 5, 5, 5)
                .changesNothing("value(0, 1)", 8);
        run("promise 27, 0 for the target").load(NET, 8).each("value(3, #)", 0, 0, 0, 0, 0, 0, 0);
        run("promise 27, the budget does not matter").load(NET + "budget 0;", 8).due("value(0, 1)", 8).due("value(0, 6)", 9)
                .make("setBudget(6)").due("value(0, 0)", 4).due("value(0, 1)", 8);
        run("promise 27, after each change").load(NET, 8).due("value(0, 1)", 8).make("setArc(4, 3, 3)")
                .each("value(0, #)", 3, 6, 6, 6, 6, 6, 6).make("undo()").due("value(0, 1)", 8)
                .make("addArc(0, 3, 0, 0)").each("value(0, #)", 0, 0, 0).make("removeArc(8)").due("value(0, 2)", 9)
                .make("removeArc(4)", "removeArc(3)", "removeArc(1)").each("value(0, #)", -1, -1).load(NET, 8)
                .due("value(0, 2)", 9);
        run("promise 27, a step and the draft do not matter").load(NET, 8).make("step(0, true)", "draft(0)")
                .each("value(0, #)", 4, 8, 9);
    }

    /** "none for any other node if n is 0", "Whether there is a value does not depend on b." */
    private static void promise27NoValue() {
        run("promise 27, NONE if it has none").load(NET, 8).each("value(4, #)", -1, -1, -1, -1, -1, -1, -1)
                .changesNothing("value(4, 0)", -1);
        run("promise 27, a new object").each("value(0, #)", -1, -1, -1, -1, -1, -1, -1)
                .each("value(1, #)", 0, 0, 0, 0, 0, 0, 0);
        run("promise 27, only an arc to a node without value").load("net 4 0 3;arc 0 1 1 1;arc 1 2 1 1;arc 2 0 1 1;", 3)
                .each("value(0, #)", -1, -1, -1).each("value(1, #)", -1, -1).due("value(2, 6)", -1);
        run("promise 27, an arc to a node without value does not count").load("net 4 0 3;arc 0 1 0 0;arc 0 3 5 5;", 2)
                .each("value(0, #)", 5, 10, 10).due("value(1, 0)", -1);
        run("promise 27, only the target's own arcs").load("net 2 0 1;arc 1 0 1 1;", 1).due("value(0, 0)", -1)
                .due("value(1, 6)", 0).due("addArc(0, 1, 2, 3)", 1).each("value(0, #)", 2, 5, 5);
        run("promise 27, nodes without arcs").load("net 8 0 7;arc 0 7 1 1;", 1).each("value(#, 3)", 2, -1, -1, -1, -1, -1, -1, 0);
    }

    /** "but if b is above 0 and this is greater, its cost and its extra plus the value of its head with b - 1" */
    private static void promise27Delays() {
        run("promise 27, b is 0").load("net 2 0 1;arc 0 1 3 9;", 1).each("value(0, #)", 3, 12, 12, 12, 12, 12, 12);
        run("promise 27, an extra of 0").load("net 2 0 1;arc 0 1 3 0;", 1).each("value(0, #)", 3, 3, 3);
        // With 1 left a delay of arc 0 brings 1 + 3 + 1 = 5, but one of arc 1 brings 1 + 1 + 4 = 6.
        run("promise 27, this is not greater").load("net 3 0 2;arc 0 1 1 3;arc 1 2 1 4;", 2).each("value(0, #)", 2, 6, 9)
                .make("setArc(0, 1, 4)").each("value(0, #)", 2, 6, 10).make("setArc(0, 1, 5)").each("value(0, #)", 2, 7, 11);
        run("promise 27, b - 1 for the head").load(CHAIN, 7).each("value(0, #)", 7, 14, 20, 25, 29, 32, 34)
                .each("value(5, #)", 2, 4, 5, 5, 5, 5, 5).each("value(6, #)", 1, 2, 2, 2, 2, 2, 2);
        run("promise 27, the opponent comes behind the traveller's choice").load("net 2 0 1;arc 0 1 3 9;arc 0 1 6 2;", 2)
                .each("value(0, #)", 3, 8, 8);
        run("promise 27, the greatest value").load("net 8 0 7;arc 0 1 99 99;arc 1 2 99 99;arc 2 3 99 99;arc 3 4 99 99;"
                + "arc 4 5 99 99;arc 5 6 99 99;arc 6 7 99 99;", 7).each("value(0, #)", 693, 792, 891, 990, 1089, 1188, 1287);
    }

    private static void promise27Circles() {
        run("promise 27, a circle that costs nothing").load("net 4 0 3;arc 0 1 0 0;arc 1 0 0 0;arc 1 2 0 9;arc 2 1 0 0;"
                + "arc 2 3 1 4;", 5).each("value(0, #)", 1, 10, 14, 14, 14, 14, 14);
        run("promise 27, a circle whose way out is gone").load("net 3 0 2;arc 0 1 0 0;arc 1 0 0 0;arc 1 2 5 0;", 3)
                .each("value(0, #)", 5, 5, 5, 5, 5, 5, 5).make("removeArc(2)").each("value(0, #)", -1, -1, -1)
                .each("value(1, #)", -1, -1, -1);
        run("promise 27, turning back").load("net 3 0 2;arc 0 1 1 50;arc 1 2 1 0;arc 1 0 0 0;arc 0 2 9 0;", 4)
                .each("value(0, #)", 2, 9, 9).each("value(1, #)", 1, 1, 1);
        // At 1 with some left it is 61 over arc 1; over arc 2 it is 2 + 20, or 5 and the value of 0 with less.
        run("promise 27, turning back once delayed").load("net 3 0 2;arc 0 1 0 0;arc 1 2 1 60;arc 1 0 2 3;arc 0 2 20 0;", 4)
                .each("value(1, #)", 1, 22, 25, 25, 25, 25, 25).each("value(0, #)", 1, 20, 20, 20, 20, 20, 20);
    }

    /** "The value of a node with a left budget is that by at most 64 steps" */
    private static void promise27ManySteps() {
        run("promise 27, seven steps").load(CHAIN, 7).due("value(0, 0)", 7).due("value(1, 0)", 6);
        run("promise 27, 28 steps").load(LONG, 16).each("value(3, #)", 0, 61, 96, 116, 130, 140, 142)
                .each("value(6, #)", 0, 61, 96, 116, 130, 140, 141).each("value(4, #)", 0, 61, 96, 116, 130, 135, 135)
                .each("value(2, #)", 0, 61, 96, 116, 130, 130, 130);
    }

    private static void promise27OutOfRange() {
        run("promise 27, the node does not exist").load(NET, 8).refuses("value(-1, 0)", Run.OUT).refuses("value(5, 0)", Run.OUT)
                .refuses("value(8, 0)", Run.OUT).refuses("value(2147483647, 0)", Run.OUT)
                .refuses("value(-2147483648, 0)", Run.OUT).due("value(4, 0)", -1);
        run("promise 27, one of 8 nodes does not exist").load(CHAIN, 7).due("value(7, 0)", 0).refuses("value(8, 0)", Run.OUT);
        run("promise 27, left is out of range").load(NET, 8).refuses("value(0, -1)", Run.ARGUMENT)
                .refuses("value(0, 7)", Run.ARGUMENT).refuses("value(0, 2147483647)", Run.ARGUMENT)
                .refuses("value(0, -2147483648)", Run.ARGUMENT).refuses("value(3, 7)", Run.ARGUMENT);
        run("promise 27, the exception named first").load(NET, 8).refuses("value(5, 7)", Run.OUT)
                .refuses("value(-1, -1)", Run.OUT);
    }

    private static void promise28() {
        run("promise 28, NONE if the node is the target").load(NET, 8).each("bestNext(3, #)", -1, -1, -1, -1, -1, -1, -1);
        run("promise 28, NONE if the node has no value").load(NET, 8).each("bestNext(4, #)", -1, -1, -1, -1, -1, -1, -1)
                .load("net 4 0 3;arc 0 1 1 1;arc 1 0 1 1;", 2).due("bestNext(0, 0)", -1).due("bestNext(1, 6)", -1)
                .due("bestNext(2, 6)", -1);
        run("promise 28, the best arc of a node").load(NET, 8).each("bestNext(2, #)", 3, 3, 3, 3, 3, 3, 3)
                .each("bestNext(1, #)", 1, 1, 1, 1, 1, 1, 1).changesNothing("bestNext(0, 1)", 2);
        run("promise 28, after each change").load(NET, 8).due("bestNext(0, 0)", 0).make("setArc(4, 0, 0)")
                .each("bestNext(0, #)", 4, 4, 4).make("undo()").due("bestNext(0, 0)", 0).make("addArc(0, 3, 3, 0)")
                .due("bestNext(0, 0)", 8).make("removeArc(8)").due("bestNext(0, 0)", 0);
        run("promise 28, the budget does not matter").load(NET + "budget 0;", 8).due("bestNext(0, 1)", 2)
                .make("setBudget(6)").due("bestNext(0, 1)", 2).due("bestNext(0, 0)", 0);
        run("promise 28, not over a node without value").load("net 4 0 3;arc 0 1 0 0;arc 0 3 5 5;", 2).due("bestNext(0, 0)", 1)
                .due("bestNext(0, 6)", 1);
    }

    /** "Its best arc is the lowest arc to which this least number belongs" */
    private static void promise28Lowest() {
        // With 2 left all of 0, 2 and 4 have the number 9; with 1 left 2 has 8.
        run("promise 28, the lowest arc").load(NET, 8).each("bestNext(0, #)", 0, 2, 0, 0, 0, 0, 0);
        run("promise 28, the lowest of 16 arcs").load("net 2 0 1;arc 1 0 0 0;arc 0 1 5 0;arc 0 1 4 1;"
                + "arc 0 1 4 0;".repeat(13), 16).due("bestNext(0, 0)", 2).each("bestNext(0, #)", 2, 3, 3).make("setArc(15, 3, 0)")
                .each("bestNext(0, #)", 15, 15);
        run("promise 28, the lowest arc leads into a circle that costs nothing").load("net 3 0 2;arc 0 1 0 0;arc 1 0 0 0;"
                + "arc 1 2 5 0;", 3).each("bestNext(1, #)", 1, 1).each("bestNext(0, #)", 0, 0);
        run("promise 28, a circle that costs 1").load("net 3 0 2;arc 0 1 0 0;arc 1 0 1 0;arc 1 2 5 0;", 3)
                .each("bestNext(1, #)", 2, 2);
        // Over arc 5 it is 140 with 5 left and 145 with 6 left, over arc 9 it is 140 and 142.
        run("promise 28, with the values of the heads by at most 64 steps").load(LONG, 16)
                .each("bestNext(3, #)", 5, 5, 5, 5, 5, 5, 9);
    }

    private static void promise28OutOfRange() {
        run("promise 28, the node does not exist").load(NET, 8).refuses("bestNext(-1, 0)", Run.OUT)
                .refuses("bestNext(5, 0)", Run.OUT).refuses("bestNext(8, 0)", Run.OUT)
                .refuses("bestNext(2147483647, 0)", Run.OUT).refuses("bestNext(-2147483648, 0)", Run.OUT);
        run("promise 28, one of 8 nodes does not exist").load(CHAIN, 7).due("bestNext(7, 0)", -1)
                .refuses("bestNext(8, 0)", Run.OUT);
        run("promise 28, left is out of range").load(NET, 8).refuses("bestNext(0, -1)", Run.ARGUMENT)
                .refuses("bestNext(0, 7)", Run.ARGUMENT).refuses("bestNext(0, 2147483647)", Run.ARGUMENT)
                .refuses("bestNext(0, -2147483648)", Run.ARGUMENT).refuses("bestNext(3, -1)", Run.ARGUMENT);
        run("promise 28, the exception named first").load(NET, 8).refuses("bestNext(5, 7)", Run.OUT)
                .refuses("bestNext(-1, -1)", Run.OUT);
    }

    /** "A step goes along an arc that leaves the present node", "The time grows by the cost of the arc" */
    private static void promise29() {
        run("promise 29, the time afterwards").load(NET, 8).due("step(0, true)", 7).due("count(8)", 1).due("count(9)", 7)
                .due("count(10)", 0).due("count(4)", 1).due("count(11)", 1).due("step(5, false)", 7)
                .due("step(3, false)", 10).due("count(8)", 3).due("count(9)", 10).due("count(11)", 3);
        run("promise 29, the journey begins at the source with the time 0 and the whole budget left")
                .load("net 3 2 0;budget 5;arc 2 1 4 4;", 1).each("count(#)", 3, 1, 2, 0, 5, 0, 0, 0, 2, 0, 5, 0)
                .due("step(0, false)", 4).due("count(10)", 5);
        run("promise 29, a node may come twice, the source too").load(CIRCLE, 3).due("step(0, false)", 1)
                .due("step(1, false)", 4).due("step(0, false)", 5).due("step(1, false)", 8).due("count(8)", 0);
        run("promise 29, into a node without value").load(NET, 8).due("step(6, false)", 1).due("count(8)", 4);
        run("promise 29, the greatest time").load("net 3 0 2;budget 6;arc 0 1 99 99;arc 1 0 99 99;", 2).due("step(0, true)", 198)
                .due("step(1, true)", 396).due("step(0, true)", 594).due("step(1, true)", 792).due("step(0, true)", 990)
                .due("step(1, true)", 1188).refuses("step(0, true)", Run.STATE).due("step(0, false)", 1287);
        run("promise 29, one change").load(NET, 8).undoes("step(0, true)").make("step(0, true)").undoes("step(5, false)")
                .make("step(1, false)").due("undo()", 2).due("count(8)", 1).due("count(10)", 0);
    }

    /** "it may be delayed if some budget is left, which is 1 less then" */
    private static void promise29Delayed() {
        run("promise 29, it is delayed and no budget is left").load(CIRCLE, 3).due("step(0, true)", 3).due("count(10)", 1)
                .due("step(1, true)", 10).due("count(10)", 0).refuses("step(0, true)", Run.STATE).due("step(0, false)", 11)
                .due("count(10)", 0).refuses("step(2, true)", Run.STATE).due("step(2, false)", 16);
        run("promise 29, a budget of 0").load(CIRCLE + "budget 0;", 3).refuses("step(0, true)", Run.STATE)
                .due("step(0, false)", 1);
        run("promise 29, a budget of 1").load(CIRCLE + "budget 1;", 3).due("step(0, true)", 3)
                .refuses("step(2, true)", Run.STATE);
        run("promise 29, a delay with the extra 0").load("net 2 0 1;arc 0 1 4 0;", 1).due("step(0, true)", 4)
                .due("count(10)", 1);
        run("promise 29, a step that is not delayed leaves the budget").load(NET, 8).due("step(0, false)", 2)
                .due("count(10)", 1).due("step(5, true)", 6).due("count(10)", 0);
    }

    private static void promise29Refuses() {
        run("promise 29, the arc does not exist").load(NET, 8).refuses("step(-1, false)", Run.OUT)
                .refuses("step(8, false)", Run.OUT).refuses("step(16, true)", Run.OUT)
                .refuses("step(2147483647, false)", Run.OUT).refuses("step(-2147483648, false)", Run.OUT);
        run("promise 29, no arc exists").refuses("step(0, false)", Run.OUT);
        run("promise 29, the arc does not leave the present node").load(NET, 8).refuses("step(1, false)", Run.STATE)
                .refuses("step(7, false)", Run.STATE).make("step(0, true)").refuses("step(0, false)", Run.STATE)
                .refuses("step(3, false)", Run.STATE).due("step(1, false)", 9);
        run("promise 29, the journey is at the target").load(NET, 8).make("step(4, false)").refuses("step(7, false)", Run.STATE)
                .refuses("step(7, true)", Run.STATE).refuses("step(4, false)", Run.STATE).make("restart()")
                .due("step(4, false)", 9);
        run("promise 29, one step before the target").load(CIRCLE, 3).make("step(0, false)").due("step(2, false)", 6)
                .refuses("step(2, false)", Run.STATE);
        run("promise 29, the exception named first").load(NET, 8).make("step(4, false)").refuses("step(8, false)", Run.OUT)
                .refuses("step(-1, true)", Run.OUT);
    }

    /** "there are at most 20 steps" */
    private static void promise29TwentySteps() {
        Run circle = run("promise 29, there were 20 steps").load(CIRCLE, 3);
        for (int step = 0; step < 20; step++) {
            circle.due("step(" + step % 2 + ", " + (step == 19) + ")",
                    step / 2 * 4 + (step % 2 == 0 ? 1 : 4) + (step == 19 ? 4 : 0));
        }
        circle.due("count(11)", 20).refuses("step(0, false)", Run.STATE).refuses("step(0, true)", Run.STATE)
                .due("grief(19)", 44 + 12 - 37 - 11).due("count(9)", 44).due("undo()", 7).due("count(11)", 19)
                .due("step(2, false)", 42).refuses("step(2, false)", Run.STATE).due("restart()", 20).due("count(11)", 0)
                .due("step(0, false)", 1);
        Run away = run("promise 29, the 20th step to the target").load(CIRCLE, 3);
        for (int step = 0; step < 19; step++) {
            away.make("step(" + step % 2 + ", false)");
        }
        away.due("count(8)", 1).due("step(2, true)", 48).due("count(8)", 2).due("count(11)", 20).due("promise()", 48)
                .due("grief(19)", 0);
    }

    /** "Lets the journey begin anew." "the number of steps that were made" */
    private static void promise30() {
        run("promise 30, no steps").load(NET, 8).due("restart()", 0).due("count(11)", 0);
        run("promise 30, the number of steps").load(NET, 8).make("step(0, true)", "step(1, false)").due("restart()", 2)
                .each("count(#)", 5, 8, 0, 3, 1, 0, 0, 4, 0, 0, 1, 0).refuses("grief(0)", Run.OUT).due("restart()", 0)
                .due("step(0, true)", 7);
        run("promise 30, the draft and the told routes stay").load(NET + "route 4;", 8).make("draft(0)", "step(6, false)")
                .due("restart()", 1).due("count(5)", 1).due("count(6)", 1).due("draft(1)", 3);
        run("promise 30, one change").load(NET, 8).undoes("restart()").make("step(0, true)").undoes("restart()")
                .due("count(9)", 7);
        run("promise 30, one change without steps too").due("restart()", 0).due("undo()", 0).refuses("undo()", Run.STATE);
    }

    /** "The promise is the time plus the value of the present node with the left budget (if it has one)." */
    private static void promise31() {
        run("promise 31, the time plus the value").load(NET, 8).changesNothing("promise()", 8).make("step(0, true)")
                .due("promise()", 9).make("step(5, false)").due("promise()", 10).make("step(3, false)").due("promise()", 10);
        run("promise 31, with the left budget").load(NET, 8).make("step(2, false)").due("promise()", 8).make("undo()")
                .make("step(2, true)").due("promise()", 7);
        run("promise 31, the budget 0 to 6").load(CHAIN, 7).due("promise()", 34).make("setBudget(0)").due("promise()", 7)
                .make("setBudget(1)").due("promise()", 14);
        run("promise 31, at the target").load(NET, 8).make("step(4, true)").due("promise()", 9);
        run("promise 31, the present node has no value").refuses("promise()", Run.NO_ELEMENT).load(NET, 8)
                .make("step(6, false)").refuses("promise()", Run.NO_ELEMENT).make("restart()").due("promise()", 8);
        run("promise 31, after a change of the network").load(NET, 8).due("promise()", 8).make("setArc(4, 3, 3)")
                .due("promise()", 6).make("removeArc(4)", "removeArc(3)", "removeArc(1)").refuses("promise()", Run.NO_ELEMENT)
                .make("undo()").due("promise()", 9);
    }

    /** "The grief of a step is the promise behind it minus the promise before it." */
    private static void promise32() {
        run("promise 32, the promise behind it minus the promise before it").load(NET, 8).make("step(0, true)",
                "step(5, false)", "step(3, false)").each("grief(#)", 1, 1, 0).changesNothing("grief(1)", 1);
        run("promise 32, a step that the opponent spares").load(NET, 8).make("step(0, false)").due("grief(0)", 2 + 2 - 8);
        run("promise 32, the best steps against the best opponent").load(NET, 8).make("step(2, false)", "step(3, true)")
                .each("grief(#)", 0, 0);
        run("promise 32, round and round").load(CIRCLE, 3).due("promise()", 14).make("step(0, false)", "step(1, false)",
                "step(0, true)", "step(2, true)").each("grief(#)", -2, 6, 0, 0);
        run("promise 32, of the journey as it is after undo").load(NET, 8).make("step(0, true)", "step(5, false)", "undo()")
                .due("grief(0)", 1).refuses("grief(1)", Run.OUT).make("step(1, false)").due("grief(1)", 0);
    }

    private static void promise32OutOfRange() {
        run("promise 32, there was no such step").load(NET, 8).refuses("grief(0)", Run.OUT).make("step(0, true)")
                .refuses("grief(-1)", Run.OUT).refuses("grief(1)", Run.OUT).refuses("grief(20)", Run.OUT)
                .refuses("grief(2147483647)", Run.OUT).refuses("grief(-2147483648)", Run.OUT).due("grief(0)", 1)
                .make("restart()").refuses("grief(0)", Run.OUT);
        run("promise 32, there is no promise behind it").load(NET, 8).make("step(6, false)").refuses("grief(0)", Run.NO_ELEMENT);
        run("promise 32, there is no promise before it or behind it").load("net 4 0 3;arc 0 1 1 1;arc 1 2 1 1;", 2)
                .make("step(0, false)", "step(1, false)").refuses("grief(0)", Run.NO_ELEMENT)
                .refuses("grief(1)", Run.NO_ELEMENT);
        run("promise 32, a promise before the last step alone").load("net 4 0 3;arc 0 1 1 1;arc 1 3 1 1;arc 1 2 1 1;", 3)
                .make("step(0, false)", "step(2, false)").due("grief(0)", 1 + 2 - 4).refuses("grief(1)", Run.NO_ELEMENT);
        run("promise 32, the exception named first").load("net 4 0 3;arc 0 1 1 1;arc 1 2 1 1;", 2)
                .make("step(0, false)", "step(1, false)").refuses("grief(2)", Run.OUT).refuses("grief(-1)", Run.OUT);
    }
}
