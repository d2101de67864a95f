/** Promises 1 to 4: a new object, append, load and errorPosition. */
public final class TextTest {
    private static final Checks CHECKS = new Checks();
    private static final String ARC = "arc 0 1 1 1;";

    public static void main(String[] args) {
        promise1NewObject();
        promise2Append();
        promise3LoadReads();
        promise3LoadTakesAPrefix();
        promise3LoadRefuses();
        promise3FailedLoadIsNoChange();
        promise3SyntaxErrors();
        promise3ValueErrors();
        promise3RouteErrors();
        promise3TooMany();
        promise4ErrorPosition();
        CHECKS.end();
    }

    private static void promise1NewObject() {
        RouteBudget x = new RouteBudget();
        int[] due = {2, 0, 0, 1, 2, 0, 0, 0, 0, 0, 2, 0};
        for (int what = 0; what < due.length; what++) {
            CHECKS.same("new: count(" + what + ")", x.count(what), due[what]);
        }
        CHECKS.same("new: errorPosition", x.errorPosition(), -1);
        CHECKS.refuses(x, "new: writtenByte(0)", IndexOutOfBoundsException.class, () -> x.writtenByte(0));
        CHECKS.refuses(x, "new: undo()", IllegalStateException.class, x::undo);
        CHECKS.refuses(x, "new: drop()", IllegalStateException.class, x::drop);
        CHECKS.refuses(x, "new: load(1)", IllegalArgumentException.class, () -> x.load(1));
    }

    private static void promise2Append() {
        RouteBudget x = new RouteBudget();
        CHECKS.same("append", x.append(1, 2, 3, 4, 5), 20);
        for (int length = 40; length <= 600; length += 20) {
            CHECKS.same("append", x.append(-1, -1, -1, -1, -1), length);
        }
        CHECKS.refuses(x, "append over 600", IllegalStateException.class, () -> x.append(0, 0, 0, 0, 0));
        CHECKS.same("load(600)", x.load(600), -2);
        CHECKS.same("append to the emptied buffer", x.append(0, 0, 0, 0, 0), 20);

        RouteBudget y = new RouteBudget();
        // "net " "2 0 " "1; a" "rc 1" " 0 7" and " 9; " in this order of arguments and bytes
        y.append(0x6e657420, 0x32203020, 0x313b2061, 0x72632031, 0x20302037);
        CHECKS.same("append", y.append(0x20393b20, 0x20202020, 0x20202020, 0x20202020, 0x20202020), 40);
        CHECKS.same("load of the bytes in order", y.load(24), 1);
        CHECKS.same("arc(0, 0)", y.arc(0, 0), 1);
        CHECKS.same("arc(0, 2)", y.arc(0, 2), 7);
        CHECKS.same("arc(0, 3)", y.arc(0, 3), 9);
    }

    private static void promise3LoadReads() {
        RouteBudget x = Checks.loaded("net 4 3 1;");
        x.addArc(3, 1, 5, 5);
        x.draft(0);
        x.step(0, true);
        CHECKS.same("load", Checks.load(x, "net 8 7 6; budget 3; arc 7 6 0 99; arc 6 7 99 0; budget 5; route 0;"), 2);
        int[] due = {8, 2, 7, 6, 5, 1, 0, 1, 7, 0, 5, 0};
        for (int what = 0; what < due.length; what++) {
            CHECKS.same("loaded: count(" + what + ")", x.count(what), due[what]);
        }
        CHECKS.same("arc(0, 3)", x.arc(0, 3), 99);
        CHECKS.same("arc(1, 2)", x.arc(1, 2), 99);
        CHECKS.same("no budget in the text", Checks.loaded("net 2 0 1;").count(4), 2);
        CHECKS.same("no spaces, zeros in front", Checks.loaded("net003 0 02;arc0 1 00000000000005 6;").arc(0, 2), 5);
        CHECKS.same("spaces everywhere", Checks.loaded("  net  3  2  0 ;  arc  2  0  1  2 ;  route  0 ;  ").count(5), 1);
        CHECKS.same("16 arcs", Checks.load(x, "net 2 0 1;" + ARC.repeat(16)), 16);
        CHECKS.same("6 routes", Checks.load(x, "net 2 0 1;" + ARC.repeat(6)
                + "route 0;route 1;route 2;route 3;route 4;route 5;"), 6);
        CHECKS.same("7 arcs in a route", Checks.load(x, "net 8 0 7;arc 0 1 1 1;arc 1 2 1 1;arc 2 3 1 1;"
                + "arc 3 4 1 1;arc 4 5 1 1;arc 5 6 1 1;arc 6 7 1 1;route 0 1 2 3 4 5 6;"), 7);
        CHECKS.same("its arcs", x.route(0, 0), 7);
        CHECKS.same("load is a change", x.undo(), 7);
        CHECKS.same("undone load", x.count(5), 6);
    }

    private static void promise3LoadTakesAPrefix() {
        RouteBudget x = new RouteBudget();
        Checks.append(x, "net 2 0 1;arc 0 1 1 1;arc");
        CHECKS.same("load of the first bytes", x.load(22), 1);
        CHECKS.refuses(x, "the buffer is empty afterwards", IllegalArgumentException.class, () -> x.load(1));
        CHECKS.same("load(0)", x.load(0), -2);
        CHECKS.same("its error", x.errorPosition(), 0);
        Checks.append(x, "net 2 0 1;arc");
        CHECKS.same("load with an error", x.load(13), -2);
        CHECKS.refuses(x, "empty after an error too", IllegalArgumentException.class, () -> x.load(1));
        Checks.append(x, "net 2 0 1");
        CHECKS.same("old bytes are not read", x.load(9), -2);
        CHECKS.same("its error", x.errorPosition(), 9);
    }

    private static void promise3LoadRefuses() {
        RouteBudget x = new RouteBudget();
        Checks.append(x, "net 2 1 0;");
        CHECKS.refuses(x, "load(-1)", IllegalArgumentException.class, () -> x.load(-1));
        CHECKS.refuses(x, "load(21)", IllegalArgumentException.class, () -> x.load(21));
        CHECKS.refuses(x, "load(least)", IllegalArgumentException.class, () -> x.load(Integer.MIN_VALUE));
        CHECKS.refuses(x, "load(most)", IllegalArgumentException.class, () -> x.load(Integer.MAX_VALUE));
        CHECKS.same("a refused load keeps the buffer", x.load(20), 0);
        CHECKS.same("its source", x.count(2), 1);
    }

    private static void promise3FailedLoadIsNoChange() {
        RouteBudget x = Checks.loaded("net 3 0 2;budget 4;arc 0 1 1 2;arc 1 2 3 4;arc 0 2 8 0;route 2;");
        x.draft(0);
        x.step(0, true);
        String before = Checks.seen(x);
        CHECKS.same("load", Checks.load(x, "net 8 7 0;budget 1;arc 7 0 1 1;route 0;arc 1 1 1 1;"), -3);
        CHECKS.same("what is seen", Checks.seen(x).replace(" 45 ", " -1 "), before);
        CHECKS.same("undo goes to before the step", x.undo(), 2);
        CHECKS.same("its steps", x.count(11), 0);
        CHECKS.same("an error on the way of a route", Checks.load(x, "net 3 0 2;arc 0 1 1 1;arc 1 2 1 1;route 0 0;"), -3);
        CHECKS.same("then a right text", Checks.load(x, "net 3 0 2;arc 0 1 1 1;arc 1 2 1 1;"), 2);
        CHECKS.same("its draft is empty", x.count(6), 0);
        CHECKS.same("an error behind a route", Checks.load(x, "net 2 0 1;arc 0 1 1 1;route 0;budget 6;arc"), -2);
        CHECKS.same("then a right text", Checks.load(x, "net 2 0 1;arc 0 1 1 1;"), 1);
        CHECKS.same("its told routes", x.count(5), 0);
        CHECKS.same("its budget", x.count(4), 2);
    }

    private static void fails(String text, int code, int position) {
        RouteBudget x = new RouteBudget();
        CHECKS.same("load of " + text, Checks.load(x, text), code);
        CHECKS.same("errorPosition of " + text, x.errorPosition(), position);
        CHECKS.same("nodes after " + text, x.count(0), 2);
        CHECKS.refuses(x, "undo after " + text, IllegalStateException.class, x::undo);
    }

    private static void promise3SyntaxErrors() {
        fails("", -2, 0);
        fails("   ", -2, 3);
        fails("ne", -2, 0);
        fails("  nett 2 0 1;", -2, 2);
        fails("Net 2 0 1;", -2, 0);
        fails("net", -2, 3);
        fails("net  ", -2, 5);
        fails("net ;", -2, 4);
        fails("net a", -2, 4);
        fails("net 2 -1", -2, 6);
        fails("net 2 0 1", -2, 9);
        fails("net 2 0 1  ", -2, 11);
        fails("net 2 0 1 1;", -2, 10);
        fails("net 2 0 1;;", -2, 10);
        fails("net 2 0 1; 5;", -2, 11);
        fails("net 2 0 1; net 2 0 1;", -2, 11);
        fails("net 2 0 1;\tarc 0 1 1 1;", -2, 10);
        fails("net 2 0 1;\u0000", -2, 10);
        fails("net 2 0 1;\u00ff", -2, 10);
        fails("net 2 0 1; arcs 0 1 1 1;", -2, 11);
        fails("net 2 0 1; ar c 0 1 1 1;", -2, 11);
        fails("net 2 0 1; arcz 0 1 1 1;", -2, 11);
        fails("net 2 0 1; arca 0 1 1 1;", -2, 11);
        fails("net 2 0 1; brc 0 1 1 1;", -2, 11);
        fails("net 2 0 1; arb 0 1 1 1;", -2, 11);
        fails("net 2 0 1; budged 1;", -2, 11);
        fails("net 2 0 1; rout 0;", -2, 11);
        fails("net 2 0 1; arc 0 1 1;", -2, 20);
        fails("net 2 0 1; arc 0 1 1 1 1;", -2, 23);
        fails("net 2 0 1; arc 0 1 1 1", -2, 22);
        fails("net 2 0 1; budget;", -2, 17);
        fails("net 2 0 1; budget 1 2;", -2, 20);
        fails("net 2 0 1; budget 1", -2, 19);
        fails("net 2 0 1; arc 0 1 1 1; route;", -2, 29);
        fails("net 2 0 1; arc 0 1 1 1; route 0", -2, 31);
        fails("net 2 0 1; arc 0 1 1 1; route 0 arc", -2, 32);
        fails("net 2 0 1; arc 0 1 1 1; route 0 /;", -2, 32);
        fails("net 2 0 1; arc 0 1 1 1; route 0 :;", -2, 32);
        fails("net 2 0 1; `;", -2, 11);
        fails("net 2 0 1; arc{0 1 1 1;", -2, 14);
        fails("net 3 0 1; arc 0 2 1 1; route 0 ;", -2, 32);
        fails("net 3 0 1; arc 0 2 1 1; route 0 ", -2, 32);
    }

    private static void promise3ValueErrors() {
        fails("net 1 0 1;", -3, 4);
        fails("net 9 0 1;", -3, 4);
        fails("net 9", -3, 4);
        fails("net 4294967298 0 1;", -3, 4);
        fails("net " + "9".repeat(500), -3, 4);
        fails("net 2 2 1;", -3, 6);
        fails("net 2 0 2;", -3, 8);
        fails("net 2 1 1;", -3, 8);
        fails("net 2 1 01a", -3, 8);
        fails("net 2 0 1; budget 7;", -3, 18);
        fails("net 2 0 1; budget  10", -3, 19);
        fails("net 2 0 1; arc 2 1 1 1;", -3, 15);
        fails("net 2 0 1; arc 0 2 1 1;", -3, 17);
        fails("net 2 0 1; arc 1 1 1 1;", -3, 17);
        fails("net 2 0 1; arc 0 1 100 1;", -3, 19);
        fails("net 2 0 1; arc 0 1 99 100;", -3, 22);
        fails("net 2 0 1; arc 0 1 99 4294967296;", -3, 22);
        fails("net 8 0 7; arc 0 8 1 1;", -3, 17);
    }

    private static void promise3RouteErrors() {
        String head = "net 4 0 3;arc 0 1 1 1;arc 1 2 1 1;arc 2 3 1 1;arc 1 0 1 1;arc 2 1 1 1;arc 3 0 1 1;arc 0 3 1 1;";
        int at = head.length();
        fails(head + "route 7;", -3, at + 6);
        fails("net 2 0 1;route 0;", -3, 16);
        fails("net 2 0 1;route 0;arc 0 1 1 1;", -3, 16);
        fails(head + "route 1;", -3, at + 6);
        fails(head + "route 0 2;", -3, at + 8);
        fails(head + "route 0  3;", -3, at + 9);
        fails(head + "route 0 1 4;", -3, at + 10);
        fails(head + "route 6 5;", -3, at + 8);
        fails(head + "route 6 0;", -3, at + 8);
        fails(head + "route 0 1 2 5", -3, at + 12);
        fails(head + "route 0 1;", -2, at + 9);
        fails(head + "route 0 1 2;route 6;route 0 1 2 ;", -3, at + 32);
        fails(head + "route 6;route 6", -2, at + 15);
        CHECKS.same("a right one", Checks.load(new RouteBudget(), head + "route 0 1 2;route 6;"), 7);
    }

    private static void promise3TooMany() {
        fails("net 2 0 1;" + ARC.repeat(16) + " arc", -4, 203);
        fails("net 2 0 1;" + ARC.repeat(16) + "arc 0 1 1 1;", -4, 202);
        fails("net 2 0 1;" + ARC.repeat(16) + "arcs", -2, 202);
        String six = "net 2 0 1;" + ARC.repeat(7) + "route 0;route 1;route 2;route 3;route 4;route 5;";
        fails(six + "route 6;", -4, six.length());
        fails(six + "route", -4, six.length());
        fails(six + "route 0;", -4, six.length());
        CHECKS.same("an 8th arc behind 6 routes", Checks.load(new RouteBudget(), six + ARC), 8);
    }

    private static void promise4ErrorPosition() {
        RouteBudget x = new RouteBudget();
        Checks.load(x, "net 2 0 1;arc 0 0 1 1;");
        CHECKS.same("errorPosition", x.errorPosition(), 16);
        CHECKS.refuses(x, "load(1)", IllegalArgumentException.class, () -> x.load(1));
        CHECKS.same("errorPosition after a refused load", x.errorPosition(), 16);
        x.append(0, 0, 0, 0, 0);
        CHECKS.same("errorPosition after append", x.errorPosition(), 16);
        x.load(0);
        CHECKS.same("errorPosition after another load", x.errorPosition(), 0);
        Checks.load(x, "net 2 0 1;");
        CHECKS.same("errorPosition after a right text", x.errorPosition(), -1);
        Checks.load(x, "net");
        CHECKS.same("errorPosition after a wrong text", x.errorPosition(), 3);
        x.undo();
        CHECKS.same("undo leaves the position of the error", x.errorPosition(), 3);
    }
}
