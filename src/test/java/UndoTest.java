/** Promises 33 to 35: writeRoute, writtenByte and undo. */
public final class UndoTest {
    private static final Checks CHECKS = new Checks();
    private static final String NET = "net 5 3 1;budget 2;arc 3 0 1 4;arc 0 4 1 4;arc 4 2 1 0;arc 2 1 1 9;arc 3 1 7 0;"
            + "route 0 1 2 3;route 4;";

    public static void main(String[] args) {
        promise33WriteRoute();
        promise34WrittenByte();
        promise35EachChange();
        promise35EightChanges();
        promise35Keeps();
        CHECKS.end();
    }

    private static void promise33WriteRoute() {
        RouteBudget x = Checks.loaded(NET);
        CHECKS.same("writeRoute(0)", x.writeRoute(0), 9);
        CHECKS.same("written", Checks.written(x), "3+0-4-2+1");
        CHECKS.same("writeRoute(1)", x.writeRoute(1), 3);
        CHECKS.same("a shorter text in its place", Checks.written(x), "3-1");
        x.setBudget(6);
        CHECKS.same("writeRoute(0)", x.writeRoute(0), 9);
        CHECKS.same("written", Checks.written(x), "3+0+4-2+1");
        CHECKS.refuses(x, "writeRoute(2)", IndexOutOfBoundsException.class, () -> x.writeRoute(2));
        CHECKS.refuses(x, "writeRoute(-1)", IndexOutOfBoundsException.class, () -> x.writeRoute(-1));
        x.setBudget(0);
        CHECKS.same("what was written stays", Checks.written(x), "3+0+4-2+1");
        x.writeRoute(0);
        CHECKS.same("written", Checks.written(x), "3-0-4-2-1");
        CHECKS.same("writeRoute is no change", x.undo(), 2);
        CHECKS.same("the budget", x.count(4), 6);
        CHECKS.same("undo leaves the written text", Checks.written(x), "3-0-4-2-1");
        RouteBudget y = Checks.loaded("net 8 0 7;budget 1;arc 0 1 1 1;arc 1 2 1 1;arc 2 3 1 1;arc 3 4 1 1;arc 4 5 1 1;"
                + "arc 5 6 1 1;arc 6 7 1 2;route 0 1 2 3 4 5 6;");
        CHECKS.same("the longest one", y.writeRoute(0), 15);
        CHECKS.same("written", Checks.written(y), "0-1-2-3-4-5-6+7");
    }

    private static void promise34WrittenByte() {
        RouteBudget x = Checks.loaded(NET);
        CHECKS.refuses(x, "writtenByte(0) at first", IndexOutOfBoundsException.class, () -> x.writtenByte(0));
        x.writeRoute(0);
        CHECKS.same("writtenByte(0)", x.writtenByte(0), '3');
        CHECKS.same("writtenByte(1)", x.writtenByte(1), '+');
        CHECKS.same("writtenByte(3)", x.writtenByte(3), '-');
        CHECKS.same("writtenByte(8)", x.writtenByte(8), '1');
        CHECKS.refuses(x, "writtenByte(9)", IndexOutOfBoundsException.class, () -> x.writtenByte(9));
        CHECKS.refuses(x, "writtenByte(-1)", IndexOutOfBoundsException.class, () -> x.writtenByte(-1));
        x.writeRoute(1);
        CHECKS.refuses(x, "writtenByte(3)", IndexOutOfBoundsException.class, () -> x.writtenByte(3));
        Checks.load(x, "net 2 0 1;");
        CHECKS.same("load leaves the written text", Checks.written(x), "3-1");
    }

    /** After a change and its undo all that can be seen is as it was. */
    private static void undoes(RouteBudget x, String call, java.util.function.IntSupplier change) {
        String before = Checks.seen(x);
        int changes = x.restart();
        int left = x.undo();
        CHECKS.yes("undo of restart from " + changes, Checks.seen(x).equals(before));
        CHECKS.yes(call + " succeeds", !Checks.answer(change).startsWith("throws."));
        CHECKS.same("undo of " + call, x.undo(), left);
        CHECKS.same("after undo of " + call, Checks.seen(x), before);
    }

    private static void promise35EachChange() {
        RouteBudget x = Checks.loaded("net 5 3 1;budget 2;arc 3 0 1 4;arc 0 4 1 4;arc 4 2 1 0;arc 2 1 1 9;arc 3 1 7 0;"
                + "arc 0 1 3 3;arc 4 3 8 8;route 0 1 2 3;route 4;");
        x.draft(0);
        x.draft(5);
        x.step(0, true);
        x.step(1, false);
        undoes(x, "addArc", () -> x.addArc(3, 1, 0, 0));
        undoes(x, "removeArc", () -> x.removeArc(6));
        undoes(x, "setArc", () -> x.setArc(0, 50, 50));
        undoes(x, "setBudget", () -> x.setBudget(6));
        undoes(x, "tell", x::tell);
        undoes(x, "drop", x::drop);
        undoes(x, "forget", () -> x.forget(0));
        undoes(x, "step", () -> x.step(2, true));
        undoes(x, "restart", x::restart);
        undoes(x, "load", () -> Checks.load(x, "net 8 7 0;budget 5;arc 7 0 3 3;route 0;"));
        x.drop();
        undoes(x, "draft", () -> x.draft(1));
    }

    private static void promise35EightChanges() {
        RouteBudget x = new RouteBudget();
        CHECKS.refuses(x, "undo of nothing", IllegalStateException.class, x::undo);
        for (int budget = 0; budget <= 6; budget++) {
            x.setBudget(budget);
        }
        for (int arc = 0; arc < 5; arc++) {
            x.addArc(0, 1, arc, 0);
        }
        for (int left = 7; left >= 3; left--) {
            CHECKS.same("undo", x.undo(), left);
        }
        CHECKS.same("arcs", x.count(1), 0);
        CHECKS.same("undo", x.undo(), 2);
        CHECKS.same("undo", x.undo(), 1);
        CHECKS.same("undo", x.undo(), 0);
        CHECKS.same("the budget before the latest eight changes", x.count(4), 3);
        CHECKS.refuses(x, "undo of a ninth change", IllegalStateException.class, x::undo);
        x.setBudget(1);
        CHECKS.same("undo of a new change", x.undo(), 0);
        CHECKS.same("the budget", x.count(4), 3);
        for (int i = 0; i < 10; i++) {
            x.restart();
        }
        CHECKS.same("undo", x.undo(), 7);
        CHECKS.same("undo", x.undo(), 6);
        x.restart();
        CHECKS.same("changes lost are not undone later", x.undo(), 6);
        for (int left = 5; left >= 0; left--) {
            CHECKS.same("undo", x.undo(), left);
        }
        CHECKS.refuses(x, "undo of nothing", IllegalStateException.class, x::undo);
    }

    private static void promise35Keeps() {
        RouteBudget x = Checks.loaded(NET);
        x.writeRoute(0);
        x.append(1, 2, 3, 4, 5);
        Checks.load(x, "net 3 0 2;arc 0 1 1 1;");
        CHECKS.same("errorPosition", x.errorPosition(), 0);
        x.setBudget(4);
        x.append(0x6e657420, 0x32203020, 0x313b2020, 0x20202020, 0x20202020);
        CHECKS.same("undo", x.undo(), 1);
        CHECKS.same("the position of the error stays", x.errorPosition(), 0);
        CHECKS.same("the written text stays", Checks.written(x), "3+0-4-2+1");
        CHECKS.same("the text buffer stays", x.load(20), 0);
        CHECKS.same("nodes", x.count(0), 2);
        CHECKS.same("undo of load", x.undo(), 1);
        CHECKS.same("nodes", x.count(0), 5);
        CHECKS.same("the position of no error stays", x.errorPosition(), -1);
        CHECKS.refuses(x, "the buffer stays empty", IllegalArgumentException.class, () -> x.load(1));
        CHECKS.same("undo of the first load", x.undo(), 0);
        CHECKS.same("nodes", x.count(0), 2);
        CHECKS.same("written text after all", Checks.written(x), "3+0-4-2+1");
    }
}
