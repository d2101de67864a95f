/** Promises 33 to 35: writeRoute, writtenByte and undo. */
public final class UndoTest {
    private static final Checks CHECKS = new Checks();
    private static final String NET = "net 5 3 1;budget 2;arc 3 0 1 4;arc 0 4 1 4;arc 4 2 1 0;arc 2 1 1 9;arc 3 1 7 0;"
            + "arc 0 1 3 3;arc 4 3 8 8;route 0 1 2 3;route 4;";
    private static final String CHAIN = "net 8 0 7;arc 0 1 1 1;arc 1 2 1 1;arc 2 3 1 1;arc 3 4 1 1;arc 4 5 1 1;arc 5 6 1 1;"
            + "arc 6 7 1 2;route 0 1 2 3 4 5 6;";

    public static void main(String[] args) {
        promise33();
        promise33Signs();
        promise33Stays();
        promise33OutOfRange();
        promise34();
        promise35EachChange();
        promise35LoadAgain();
        promise35OtherSteps();
        promise35EightChanges();
        promise35NineChanges();
        promise35Mixed();
        promise35LastCall();
        promise35NoChange();
        promise35Refused();
        promise35Keeps();
        CHECKS.end();
    }

    private static Run run(String name) {
        return new Run(CHECKS, name);
    }

    /** "the numbers of its nodes from the source to the target with a minus sign between two of them" */
    private static void promise33() {
        run("promise 33, the numbers of its nodes").load(NET + "budget 0;", 7).due("writeRoute(0)", 9).written("3-0-4-2-1")
                .due("writeRoute(1)", 3).written("3-1");
        run("promise 33, in place of what was written before").load(NET, 7).due("writeRoute(0)", 9).written("3+0-4-2+1")
                .due("writeRoute(1)", 3).written("3-1").due("writeRoute(0)", 9).written("3+0-4-2+1");
        run("promise 33, all eight nodes").load(CHAIN + "budget 1;", 7).due("writeRoute(0)", 15).written("0-1-2-3-4-5-6+7");
        run("promise 33, the nodes against their order").load("net 8 7 0;arc 7 6 1 1;arc 6 5 1 1;arc 5 4 1 1;arc 4 3 1 1;"
                + "arc 3 2 1 1;arc 2 1 1 1;arc 1 0 1 1;route 0 1 2 3 4 5 6;", 7).due("writeRoute(0)", 15)
                .written("7+6+5-4-3-2-1-0");
        run("promise 33, two nodes").load("net 2 1 0;arc 1 0 1 1;route 0;", 1).due("writeRoute(0)", 3).written("1+0");
        run("promise 33, no change").load(NET, 7).make("setBudget(1)").due("writeRoute(0)", 9).due("undo()", 1)
                .due("count(4)", 2).due("writeRoute(0)", 9).due("undo()", 0).due("count(0)", 2);
        Run x = run("promise 33, nothing else is changed").load(NET, 7).make("draft(4)", "step(0, true)");
        String before = x.stateSeen();
        CHECKS.same("promise 33, what is seen", x.make("writeRoute(0)").stateSeen(), before);
    }

    /** "against its witness each arc that is delayed has the sign plus instead" */
    private static void promise33Signs() {
        String[] written = {"0-1-2-3-4-5-6-7", "0-1-2-3-4-5-6+7", "0+1-2-3-4-5-6+7", "0+1+2-3-4-5-6+7", "0+1+2+3-4-5-6+7",
            "0+1+2+3+4-5-6+7", "0+1+2+3+4+5-6+7"};
        for (int budget = 0; budget <= 6; budget++) {
            run("promise 33, the budget " + budget).load(CHAIN + "budget " + budget + ";", 7).due("writeRoute(0)", 15)
                    .written(written[budget]);
        }
        run("promise 33, an extra of 0 is not delayed").load("net 3 0 2;budget 6;arc 0 1 5 0;arc 1 2 5 1;route 0 1;", 2)
                .due("writeRoute(0)", 5).written("0-1+2").make("setArc(1, 5, 0)", "writeRoute(0)").written("0-1-2");
        run("promise 33, its own witness, not that of its regret").load("net 4 0 3;budget 2;arc 0 1 0 3;arc 1 2 0 3;"
                + "arc 2 3 0 6;arc 0 3 6 0;arc 1 3 0 3;route 0 1 2;", 5).due("writeRoute(0)", 7).written("0+1-2+3");
        run("promise 33, arc 15").load("net 2 0 1;" + "arc 1 0 1 1;".repeat(15) + "arc 0 1 2 3;route 0;", -3)
                .load("net 2 0 1;" + "arc 1 0 1 1;".repeat(15) + "arc 0 1 2 3;route 15;", 16).due("writeRoute(0)", 3)
                .written("0+1");
    }

    /** What was written stays until the next writeRoute. */
    private static void promise33Stays() {
        run("promise 33, changes do not write").load(NET, 7).make("writeRoute(0)", "setBudget(0)").written("3+0-4-2+1")
                .make("forget(0)", "forget(0)").written("3+0-4-2+1").load("net 2 0 1;", 0).written("3+0-4-2+1")
                .refuses("writeRoute(0)", Run.OUT).written("3+0-4-2+1");
    }

    private static void promise33OutOfRange() {
        run("promise 33, the route does not exist").load(NET, 7).make("writeRoute(0)").refuses("writeRoute(-1)", Run.OUT)
                .refuses("writeRoute(2)", Run.OUT).refuses("writeRoute(6)", Run.OUT).refuses("writeRoute(2147483647)", Run.OUT)
                .refuses("writeRoute(-2147483648)", Run.OUT).written("3+0-4-2+1").due("writeRoute(1)", 3);
        run("promise 33, no route exists").refuses("writeRoute(0)", Run.OUT);
    }

    /** "Returns a byte of the text that was written last; there is none at first." */
    private static void promise34() {
        run("promise 34, there is none at first").refuses("writtenByte(0)", Run.OUT).refuses("writtenByte(-1)", Run.OUT)
                .load(NET, 7).refuses("writtenByte(0)", Run.OUT);
        run("promise 34, there is no such byte").load(NET, 7).make("writeRoute(0)").refuses("writtenByte(-1)", Run.OUT)
                .refuses("writtenByte(9)", Run.OUT).refuses("writtenByte(15)", Run.OUT)
                .refuses("writtenByte(2147483647)", Run.OUT).refuses("writtenByte(-2147483648)", Run.OUT)
                .due("writtenByte(0)", 51).due("writtenByte(8)", 49).changesNothing("writtenByte(1)", 43)
                .due("writtenByte(3)", 45);
        run("promise 34, a shorter text has not the bytes of the one before").load(NET, 7).make("writeRoute(0)", "writeRoute(1)")
                .due("writtenByte(2)", 49).refuses("writtenByte(3)", Run.OUT).refuses("writtenByte(8)", Run.OUT);
        run("promise 34, the longest text").load(CHAIN, 7).make("writeRoute(0)").due("writtenByte(14)", 55)
                .refuses("writtenByte(15)", Run.OUT);
    }

    /** "The changes are all calls of load, addArc, removeArc, setArc, setBudget, draft, drop, tell, forget, step and restart" */
    private static void promise35EachChange() {
        for (String change : new String[] {"addArc(3, 1, 0, 0)", "removeArc(6)", "setArc(0, 50, 50)", "setBudget(6)", "tell()",
            "drop()", "forget(0)", "forget(1)", "step(2, true)", "step(6, false)", "restart()", "setArc(0, 1, 4)",
            "setBudget(2)"}) {
            run("promise 35, undo of " + change).load(NET, 7).make("draft(0)", "draft(5)", "step(0, true)", "step(1, false)")
                    .undoes(change).due("undo()", 4).due("count(11)", 1);
        }
        run("promise 35, undo of draft").load(NET, 7).make("draft(0)", "step(0, true)", "step(1, false)").undoes("draft(1)")
                .due("undo()", 3).due("count(11)", 1);
        run("promise 35, undo of restart at the beginning").undoes("restart()").refuses("undo()", Run.STATE);
    }

    private static void promise35LoadAgain() {
        run("promise 35, undo of load").load(NET, 7).make("draft(0)", "draft(5)", "step(0, true)", "step(1, false)")
                .append("net 8 7 0;budget 5;arc 7 0 3 3;route 0;").undoes("load(39)").due("undo()", 4);
        run("promise 35, undo of load on a new object").append("net 2 1 0;").undoes("load(10)").refuses("undo()", Run.STATE);
    }

    /** "undoing a change brings back everything as it was before it": the steps behind those of another journey, too */
    private static void promise35OtherSteps() {
        run("promise 35, the steps before other steps").load(NET, 7).make("step(0, true)", "step(1, false)", "step(6, true)",
                "restart()", "step(4, true)").due("count(9)", 7).due("undo()", 5).due("undo()", 4).due("count(9)", 22)
                .due("count(8)", 3).due("count(10)", 0).due("undo()", 3).due("count(9)", 6).due("count(8)", 4)
                .due("count(10)", 1).due("undo()", 2).due("count(9)", 5).due("count(8)", 0).due("count(10)", 1)
                .due("undo()", 1).due("count(9)", 0).due("count(8)", 3).due("count(10)", 2);
        for (String change : new String[] {"addArc(3, 1, 0, 0)", "removeArc(6)", "setArc(0, 50, 50)", "setBudget(6)",
            "restart()"}) {
            run("promise 35, other steps behind " + change).load(NET, 7).make("step(0, true)", "step(1, false)", "step(2, true)")
                    .undoes(change, "step(0, false)", "step(5, true)").each("grief(#)", 4, 6, -9);
        }
        run("promise 35, other steps of another network").load(NET, 7).make("step(0, true)", "step(1, true)")
                .append("net 3 2 1;arc 2 0 50 50;arc 0 1 50 50;").undoes("load(38)", "step(0, true)", "step(1, false)");
        run("promise 35, other arcs of the draft and other routes").load(NET, 7).make("draft(0)", "draft(5)")
                .undoes("tell()", "forget(0)", "draft(0)", "draft(1)").undoes("drop()", "draft(1)", "draft(2)", "forget(1)")
                .undoes("setBudget(0)", "setArc(3, 0, 0)", "removeArc(6)", "drop()", "drop()");
    }

    /** "The latest 8 changes can be undone", "Returns the number of changes that can still be undone." */
    private static void promise35EightChanges() {
        run("promise 35, there is no change to undo").refuses("undo()", Run.STATE).make("setBudget(3)").due("undo()", 0)
                .refuses("undo()", Run.STATE).due("count(4)", 2);
        Run eight = run("promise 35, 8 changes");
        for (int change = 0; change < 8; change++) {
            eight.due("addArc(0, 1, " + change + ", 0)", change);
        }
        for (int left = 7; left >= 0; left--) {
            eight.due("undo()", left).due("count(1)", left);
        }
        eight.refuses("undo()", Run.STATE).due("count(1)", 0).due("count(7)", 0);
    }

    /** "older ones cannot any more" */
    private static void promise35NineChanges() {
        Run nine = run("promise 35, 9 changes");
        for (int change = 0; change < 9; change++) {
            nine.due("addArc(0, 1, " + change + ", 0)", change);
        }
        for (int left = 7; left >= 0; left--) {
            nine.due("undo()", left).due("count(1)", left + 1);
        }
        nine.refuses("undo()", Run.STATE).each("arc(0, #)", 0, 1, 0, 0);
        Run many = run("promise 35, 40 changes");
        for (int change = 0; change < 40; change++) {
            many.make("setBudget(" + change % 7 + ")");
        }
        for (int left = 7; left >= 0; left--) {
            many.due("undo()", left).due("count(4)", (31 + left) % 7);
        }
        many.refuses("undo()", Run.STATE).due("count(4)", 31 % 7);
    }

    /** "Undoes the latest change that has not been undone." */
    private static void promise35Mixed() {
        run("promise 35, the latest change that has not been undone").make("setBudget(3)", "setBudget(4)", "setBudget(5)")
                .due("undo()", 2).due("count(4)", 4).make("setBudget(6)").due("undo()", 2).due("count(4)", 4)
                .due("undo()", 1).due("count(4)", 3).due("undo()", 0).due("count(4)", 2).refuses("undo()", Run.STATE);
        run("promise 35, changes that were pushed out are not undone later").make("setBudget(0)", "setBudget(1)",
                "setBudget(2)", "setBudget(3)", "setBudget(4)", "setBudget(5)", "setBudget(6)", "setBudget(0)", "setBudget(1)",
                "setBudget(2)").due("undo()", 7).due("undo()", 6).due("count(4)", 0).make("setBudget(5)").due("undo()", 6)
                .due("undo()", 5).due("undo()", 4).due("undo()", 3).due("undo()", 2).due("undo()", 1).due("undo()", 0)
                .due("count(4)", 1).refuses("undo()", Run.STATE).make("setBudget(6)").due("undo()", 0).due("count(4)", 1)
                .refuses("undo()", Run.STATE);
        run("promise 35, eight changes behind an undo").make("setBudget(0)").due("undo()", 0).make("setBudget(0)",
                "setBudget(1)", "setBudget(2)", "setBudget(3)", "setBudget(4)", "setBudget(5)", "setBudget(6)", "restart()")
                .due("undo()", 7).due("undo()", 6).due("undo()", 5).due("undo()", 4).due("undo()", 3).due("undo()", 2)
                .due("undo()", 1).due("undo()", 0).due("count(4)", 2).refuses("undo()", Run.STATE);
    }

    /** "An object is used for at most 512 calls after it has been made": the 512th call answers as all before it. */
    private static void promise35LastCall() {
        Run changes = run("promise 35, the 512th call");
        for (int change = 0; change < 503; change++) {
            changes.due("setBudget(" + change % 7 + ")", change == 0 ? 2 : (change - 1) % 7);
        }
        for (int left = 7; left >= 0; left--) {
            changes.due("undo()", left);
        }
        changes.due("undo()", "throws." + Run.STATE);
        Run last = run("promise 35, the 512th call undoes the 511th");
        for (int change = 0; change < 510; change++) {
            last.make("restart()");
        }
        last.due("addArc(0, 1, 5, 6)", 0).due("undo()", 7);
    }

    /** Only the changes of the list count; "a text with an error is no change". */
    private static void promise35NoChange() {
        String[] questions = {"errorPosition()", "count(7)", "arc(0, 0)", "reason()", "routeArc(0, 0)", "route(0, 4)",
            "route(0, 6)", "cost(0, 1)", "chosen()", "beats(0, 1)", "strain(0)", "shortest(1)", "robust(2)", "calm(2)",
            "bestArc(true, 0)", "bestArc(false, 0)", "within(20)", "value(0, 2)", "bestNext(0, 2)", "promise()", "grief(0)",
            "writeRoute(0)", "writtenByte(0)", "append(0, 0, 0, 0, 0)"};
        for (String question : questions) {
            Run x = run("promise 35, no change: " + question).load(NET, 7).make("writeRoute(1)", "draft(0)", "step(0, true)");
            String before = x.stateSeen();
            x.make(question);
            CHECKS.same("promise 35, what is seen after " + question, x.stateSeen(), before);
            x.due("undo()", 2).due("count(11)", 0).due("undo()", 1).due("count(6)", 0);
        }
        run("promise 35, a text with an error is no change").load(NET, 7).make("setBudget(5)").load("net 3 0 1;arc", -2)
                .load("net 3 0 3;", -3).due("undo()", 1).due("count(4)", 2).due("undo()", 0).due("count(0)", 2)
                .load("net", -2).refuses("undo()", Run.STATE);
    }

    private static void promise35Refused() {
        String[] refused = {"load(1)", "load(-1)", "addArc(0, 0, 1, 1)", "addArc(9, 0, 1, 1)", "removeArc(0)", "removeArc(9)",
            "setArc(9, 1, 1)", "setArc(0, 100, 1)", "setBudget(7)", "draft(9)", "draft(3)", "tell()", "forget(2)",
            "step(9, true)", "step(0, false)", "writeRoute(2)", "count(12)"};
        for (String call : refused) {
            run("promise 35, a call that throws is no change: " + call).load(NET, 7).make("draft(0)", "step(0, true)")
                    .refuses(call, thrown(call)).due("undo()", 2).due("count(11)", 0);
        }
        run("promise 35, a drop that throws is no change").load(NET, 7).refuses("drop()", Run.STATE).due("undo()", 0);
        run("promise 35, an undo that throws is no change").refuses("undo()", Run.STATE).refuses("undo()", Run.STATE)
                .make("restart()").due("undo()", 0);
    }

    private static String thrown(String call) {
        if (call.contains("9") || call.contains("(2)")) {
            return Run.OUT;
        }
        boolean isState = call.equals("removeArc(0)") || call.equals("tell()") || call.startsWith("draft")
                || call.startsWith("step");
        return isState ? Run.STATE : Run.ARGUMENT;
    }

    /** "but not the text buffer, the position of the error and the written text" */
    private static void promise35Keeps() {
        run("promise 35, the text buffer stays as it is").load(NET, 7).make("setBudget(4)").append("net 3 2 1;").due("undo()", 1)
                .due("load(20)", 0).each("count(#)", 3, 0, 2, 1, 2);
        run("promise 35, the buffer that was read stays empty").load(NET, 7).load("net 2 0 1;", 0).due("undo()", 1)
                .refuses("load(1)", Run.ARGUMENT).due("append(1, 2, 3, 4, 5)", 20);
        run("promise 35, the position of the error stays").load(NET, 7).make("setBudget(4)").load("net 3 0 3;", -3)
                .due("undo()", 1).due("errorPosition()", 8).load("net 3 0 2;", 0).due("undo()", 1).due("errorPosition()", -1);
        run("promise 35, the written text stays").load(NET, 7).make("setBudget(1)", "writeRoute(0)").written("3-0-4-2+1")
                .due("undo()", 1).written("3-0-4-2+1").make("writeRoute(0)").written("3+0-4-2+1").due("undo()", 0)
                .written("3+0-4-2+1").refuses("writeRoute(0)", Run.OUT).written("3+0-4-2+1");
    }
}
