/** Promises 1 to 4: a new object, append, load and errorPosition; the texts of section 6. */
public final class TextTest {
    private static final Checks CHECKS = new Checks();
    private static final int SYNTAX = -2;
    private static final int VALUE = -3;
    private static final int MANY = -4;
    private static final String ARC = "arc 0 1 1 1;";
    /** A network with a draft, a told route, a step and a written text, so that every loss would be seen. */
    private static final String NET =
            "net 4 1 3;budget 1;arc 1 0 2 5;arc 0 3 2 0;arc 1 2 3 1;arc 2 3 3 2;arc 0 2 1 6;route 2 3;";

    public static void main(String[] args) {
        promise1();
        promise2();
        promise3Length();
        promise3Replaces();
        promise3Keeps();
        promise3Head();
        promise3Budget();
        promise3Arc();
        promise3ArcNumbers();
        promise3Route();
        promise3RouteErrors();
        promise3RouteEnds();
        promise3Words();
        promise3Numbers();
        promise3Spaces();
        promise3Bytes();
        promise3EndOfText();
        promise3TooMany();
        promise3FirstError();
        promise3SamePosition();
        promise4();
        CHECKS.end();
    }

    private static Run run(String name) {
        return new Run(CHECKS, name);
    }

    private static Run busy(String name) {
        return run(name).load(NET, 5).make("draft(0)", "draft(4)", "step(0, true)", "step(4, false)", "writeRoute(0)");
    }

    /** "Creates a network of 2 nodes without arcs, with the source 0, the target 1, the budget 2, an empty draft, .." */
    private static void promise1() {
        run("promise 1, a network of 2 nodes").each("count(#)", 2, 0, 0, 1, 2, 0, 0, 0, 0, 0, 2, 0);
        run("promise 1, the nodes are 0 and 1").due("value(0, 6)", -1).due("value(1, 6)", 0)
                .refuses("value(2, 6)", Run.OUT);
        run("promise 1, without arcs").refuses("arc(0, 0)", Run.OUT).due("addArc(0, 1, 7, 3)", 0);
        run("promise 1, an empty draft").refuses("drop()", Run.STATE).due("reason()", 1);
        run("promise 1, no told routes").refuses("forget(0)", Run.OUT).refuses("chosen()", Run.NO_ELEMENT);
        run("promise 1, the journey at its beginning").refuses("grief(0)", Run.OUT).due("restart()", 0);
        run("promise 1, an empty text buffer").refuses("load(1)", Run.ARGUMENT)
                .due("append(1, 2, 3, 4, 5)", 20);
        run("promise 1, no text written, no change, no error").refuses("writtenByte(0)", Run.OUT)
                .refuses("undo()", Run.STATE).due("errorPosition()", -1);
        Run first = run("promise 1, each object has a state of its own").load(NET, 5);
        run("promise 1, another object").each("count(#)", 2, 0, 0, 1, 2, 0, 0, 0, 0, 0, 2, 0).make("addArc(1, 0, 1, 1)");
        first.each("count(#)", 4, 5, 1, 3, 1, 1, 0, 3, 1, 0, 1, 0);
    }

    private static void promise2() {
        // The numbers are 0x6e657420 ("net "), 0x32203020 ("2 0 "), 0x313b6172, 0x63203020, 0x31203137, 0x20393b20.
        run("promise 2, the four bytes of each argument in order, the most significant byte first")
                .due("append(1852142624, 840970272, 825975154, 1663053856, 824193335)", 20)
                .due("append(540621600, 538976288, 538976288, 538976288, 538976288)", 40)
                .due("load(23)", 1).each("arc(0, #)", 0, 1, 17, 9);
        run("promise 2, bytes above 127").due("append(1852142624, 840970272, 830537727, -1, -2147483648)", 20)
                .due("load(20)", SYNTAX).due("errorPosition()", 9);
        Run full = run("promise 2, the length would exceed 600");
        for (int length = 20; length <= 600; length += 20) {
            full.due("append(-1, -2, -3, -4, -5)", length);
        }
        full.refuses("append(0, 0, 0, 0, 0)", Run.STATE).refuses("append(-1, -1, -1, -1, -1)", Run.STATE)
                .due("load(600)", SYNTAX).due("append(0, 0, 0, 0, 0)", 20);
        String most = "net 2 0 1;" + ARC.repeat(16) + " ".repeat(600 - 10 - 16 * 12 - 9) + "budget 6;";
        run("promise 2, a refused call keeps all 600 bytes").append(most).refuses("append(0, 0, 0, 0, 0)", Run.STATE)
                .due("load(600)", 16).due("count(4)", 6).due("append(0, 0, 0, 0, 0)", 20);
        run("promise 2, append changes nothing else").load(NET, 5).make("draft(0)", "step(2, false)")
                .due("append(0, 0, 0, 0, 0)", 20).each("count(#)", 4, 5, 1, 3, 1, 1, 1, 3, 2, 3, 1, 1)
                .due("undo()", 2).due("count(11)", 0);
    }

    /** "length: number of bytes, 0 to the length of the buffer" */
    private static void promise3Length() {
        run("promise 3, the length of the buffer").append("net 2 1 0;").refuses("load(-1)", Run.ARGUMENT)
                .refuses("load(21)", Run.ARGUMENT).refuses("load(-2147483648)", Run.ARGUMENT)
                .refuses("load(2147483647)", Run.ARGUMENT).due("load(20)", 0).due("count(2)", 1);
        run("promise 3, an empty buffer").refuses("load(1)", Run.ARGUMENT).refuses("load(-1)", Run.ARGUMENT)
                .due("load(0)", SYNTAX).due("errorPosition()", 0);
        run("promise 3, length 0 of a full buffer").append("net 2 1 0;").due("load(0)", SYNTAX)
                .due("errorPosition()", 0).refuses("load(1)", Run.ARGUMENT);
        run("promise 3, the first bytes").append("net 2 0 1;" + ARC + "arc").due("load(22)", 1)
                .refuses("load(1)", Run.ARGUMENT);
        run("promise 3, one byte less").append("net 2 0 1;" + ARC + "arc").due("load(21)", SYNTAX)
                .due("errorPosition()", 21);
        run("promise 3, one byte more").append("net 2 0 1;" + ARC + "arc").due("load(23)", SYNTAX)
                .due("errorPosition()", 22);
        run("promise 3, the buffer is empty after a right text").load(NET, 5).refuses("load(1)", Run.ARGUMENT)
                .due("append(0, 0, 0, 0, 0)", 20);
        run("promise 3, the buffer is empty after an error").load("net 2 0 1;arc 0 1 1 1;arc", SYNTAX)
                .refuses("load(1)", Run.ARGUMENT).due("append(0, 0, 0, 0, 0)", 20).due("load(0)", SYNTAX)
                .load("net 2 0 1", SYNTAX).due("errorPosition()", 9);
        run("promise 3, a text of 600 bytes").load("net 2 0 1;" + " ".repeat(578) + ARC, 1).due("count(7)", 1);
        run("promise 3, an error at byte 599").load("net 2 0 1;" + " ".repeat(589) + "a", SYNTAX)
                .due("errorPosition()", 599);
        run("promise 3, an end at byte 600").load("net 2 0 1;" + " ".repeat(579) + "arc 0 1 1 1", SYNTAX)
                .due("errorPosition()", 600);
    }

    /** "If the text has no error, it replaces the present one, with an empty draft and the journey at its beginning" */
    private static void promise3Replaces() {
        busy("promise 3, the text replaces the network")
                .load("net 8 7 6;budget 3;arc 7 6 0 99;arc 6 7 99 0;budget 5;route 0;", 2)
                .each("count(#)", 8, 2, 7, 6, 5, 1, 0, 1, 7, 0, 5, 0).each("arc(0, #)", 7, 6, 0, 99)
                .each("arc(1, #)", 6, 7, 99, 0).due("routeArc(0, 0)", 0).refuses("grief(0)", Run.OUT)
                .refuses("arc(2, 0)", Run.OUT).refuses("forget(1)", Run.OUT).refuses("drop()", Run.STATE);
        busy("promise 3, a text without arcs, budget and routes").load("net 2 1 0;", 0)
                .each("count(#)", 2, 0, 1, 0, 2, 0, 0, 0, 1, 0, 2, 0).refuses("arc(0, 0)", Run.OUT)
                .refuses("forget(0)", Run.OUT);
        busy("promise 3, a right text is one change").undoes("restart()")
                .load("net 2 1 0;", 0).due("undo()", 5).each("count(#)", 4, 5, 1, 3, 1, 1, 2, 3, 2, 8, 0, 2);
        busy("promise 3, the text itself again").load(NET, 5).each("count(#)", 4, 5, 1, 3, 1, 1, 0, 3, 1, 0, 1, 0);
    }

    /** "in case of an error the present one stays" */
    private static void promise3Keeps() {
        for (String text : new String[] {"", "net 8 7 0;budget 5;arc 7 0 1 1;route 0;arc 1 1 1 1;",
            "net 2 0 1;" + ARC.repeat(17), "net 3 0 2;arc 0 1 9 9;arc 1 2 9 9;route 0 1;route 0"}) {
            String name = "promise 3, in case of an error the present one stays: " + text;
            Run failed = busy(name).append(text).make("load(" + text.length() + ")");
            CHECKS.same(name, failed.stateSeen(), busy(name).stateSeen());
            failed.written("1-2+3").due("undo()", 4).due("undo()", 3).due("count(11)", 0);
        }
        run("promise 3, nothing of a wrong text is left for the next one")
                .load("net 8 7 0;budget 6;arc 7 0 1 1;route 0;route", SYNTAX)
                .load("net 3 0 2;arc 0 1 1 1;arc 1 2 1 1;route 0 2;", VALUE)
                .load("net 3 0 2;arc 0 1 1 1;arc 1 2 1 1;route 0 1;", 2)
                .each("count(#)", 3, 2, 0, 2, 2, 1, 0, 1, 0, 0, 2, 0).due("reason()", 1).due("undo()", 0);
    }

    private static void right(String name, String text, int arcs) {
        run("promise 3, " + name + ": " + text).load(text, arcs).due("errorPosition()", -1);
    }

    /** The text has this error, and the object is as before, but for the position of the error. */
    private static void wrong(String name, String text, int code, int position) {
        run("promise 3, " + name + ": " + text).load(text, code).due("errorPosition()", position)
                .each("count(#)", 2, 0, 0, 1, 2, 0, 0, 0, 0, 0, 2, 0).due("undo()", "throws." + Run.STATE);
    }

    /** "2 to 8 nodes, numbered from 0", "a source and a target, two different nodes" */
    private static void promise3Head() {
        wrong("0 nodes", "net 0 0 1;", VALUE, 4);
        wrong("1 node", "net 1 0 1;", VALUE, 4);
        right("2 nodes", "net 2 0 1;", 0);
        right("8 nodes", "net 8 0 1;", 0);
        wrong("9 nodes", "net 9 0 1;", VALUE, 4);
        wrong("10 nodes", "net 10 0 1;", VALUE, 4);
        right("the last node is the source", "net 8 7 0;", 0);
        wrong("the source behind the last node", "net 8 8 0;", VALUE, 6);
        wrong("the source behind the last of 2 nodes", "net 2 2 1;", VALUE, 6);
        right("the last node is the target", "net 8 0 7;", 0);
        wrong("the target behind the last node", "net 8 0 8;", VALUE, 8);
        wrong("the target behind the last of 2 nodes", "net 2 0 2;", VALUE, 8);
        wrong("the target is the source 0", "net 2 0 0;", VALUE, 8);
        wrong("the target is the source 7", "net 8 7 7;", VALUE, 8);
        wrong("the target is the source, told in another way", "net 2 1  01;", VALUE, 9);
        right("the target in front of the source", "net 3 2 1;", 0);
        wrong("no nodes", "net ;", SYNTAX, 4);
        wrong("no source", "net 2 ;", SYNTAX, 6);
        wrong("no target", "net 2 0;", SYNTAX, 7);
        wrong("a fourth number", "net 2 0 1 1;", SYNTAX, 10);
        wrong("no semicolon", "net 2 0 1 arc 0 1 1 1;", SYNTAX, 10);
        wrong("a second semicolon", "net 2 0 1;;", SYNTAX, 10);
        wrong("a second head", "net 2 0 1;net 2 0 1;", SYNTAX, 10);
        wrong("no head", "arc 0 1 1 1;", SYNTAX, 0);
        wrong("a number in front of the head", " 5 net 2 0 1;", SYNTAX, 1);
        wrong("a semicolon in front of the head", ";net 2 0 1;", SYNTAX, 0);
    }

    /** "of "budget" 0 to 6 (2 without it; the last one counts)" */
    private static void promise3Budget() {
        for (int budget = 0; budget <= 6; budget++) {
            run("promise 3, a budget of 0 to 6").load("net 2 0 1;budget " + budget + ";", 0).due("count(4)", budget)
                    .due("count(10)", budget);
        }
        wrong("a budget above 6", "net 2 0 1;budget 7;", VALUE, 17);
        wrong("a budget far above 6", "net 2 0 1;budget  10;", VALUE, 18);
        run("promise 3, 2 without it").make("setBudget(5)").load("net 2 0 1;", 0).due("count(4)", 2)
                .due("count(10)", 2);
        run("promise 3, the last one counts").load("net 2 0 1;budget 6;" + ARC + "budget 0;budget 3;", 1)
                .due("count(4)", 3).due("count(10)", 3);
        run("promise 3, the last one counts for a told route too").load("net 2 0 1;budget 0;" + ARC + "route 0;budget 1;", 1)
                .due("route(0, 2)", 2);
        wrong("a wrong budget behind a right one", "net 2 0 1;budget 6;budget 7;", VALUE, 26);
        wrong("a budget without number", "net 2 0 1;budget;", SYNTAX, 16);
        wrong("a budget of two numbers", "net 2 0 1;budget 1 2;", SYNTAX, 19);
        wrong("a budget without semicolon", "net 2 0 1;budget 1 arc", SYNTAX, 19);
    }

    /** "of "arc" the tail, the head (another node than the tail), the cost and the extra" */
    private static void promise3Arc() {
        run("promise 3, the first and the last node as tail and head").load("net 8 3 4;arc 0 7 0 0;arc 7 0 99 99;", 2)
                .each("arc(0, #)", 0, 7, 0, 0).each("arc(1, #)", 7, 0, 99, 99);
        wrong("a tail behind the last node", "net 8 0 7;arc 8 0 1 1;", VALUE, 14);
        wrong("a tail behind the last of 2 nodes", "net 2 0 1;arc 2 0 1 1;", VALUE, 14);
        wrong("a head behind the last node", "net 8 0 7;arc 0 8 1 1;", VALUE, 16);
        wrong("a head behind the last of 2 nodes", "net 2 0 1;arc 0 2 1 1;", VALUE, 16);
        wrong("the head is the tail 0", "net 2 0 1;arc 0 0 1 1;", VALUE, 16);
        wrong("the head is the tail 7", "net 8 0 7;arc 7 7 1 1;", VALUE, 16);
        run("promise 3, several arcs from one node to another").load("net 2 0 1;arc 0 1 1 2;arc 0 1 1 2;arc 1 0 1 2;", 3)
                .due("count(7)", 2);
        for (int cost : new int[] {0, 99}) {
            run("promise 3, a cost of 0 to 99").load("net 2 0 1;arc 0 1 " + cost + " 5;", 1).due("arc(0, 2)", cost);
            run("promise 3, an extra of 0 to 99").load("net 2 0 1;arc 0 1 5 " + cost + ";", 1).due("arc(0, 3)", cost);
        }
        wrong("a cost above 99", "net 2 0 1;arc 0 1 100 1;", VALUE, 18);
        wrong("an extra above 99", "net 2 0 1;arc 0 1 99 100;", VALUE, 21);
    }

    private static void promise3ArcNumbers() {
        wrong("an arc without tail", "net 2 0 1;arc ;", SYNTAX, 14);
        wrong("an arc without head", "net 2 0 1;arc 0;", SYNTAX, 15);
        wrong("an arc without cost", "net 2 0 1;arc 0 1;", SYNTAX, 17);
        wrong("an arc without extra", "net 2 0 1;arc 0 1 1;", SYNTAX, 19);
        wrong("an arc without semicolon", "net 2 0 1;arc 0 1 1 1 arc", SYNTAX, 22);
        wrong("an arc of five numbers", "net 2 0 1;arc 0 1 1 1 1;", SYNTAX, 22);
        wrong("a word for a cost", "net 2 0 1;arc 0 1 a 1;", SYNTAX, 18);
        wrong("a minus sign", "net 2 0 1;arc 0 1 -1 1;", SYNTAX, 18);
        wrong("a number for a statement", "net 2 0 1; 5;", SYNTAX, 11);
    }

    /** "of "route" the arcs of a told route, which must be there already" */
    private static void promise3Route() {
        run("promise 3, a route of one arc").load("net 2 0 1;" + ARC + "route 0;", 1).due("route(0, 0)", 1);
        run("promise 3, a route of seven arcs").load("net 8 0 7;arc 0 1 1 1;arc 1 2 1 1;arc 2 3 1 1;arc 3 4 1 1;"
                + "arc 4 5 1 1;arc 5 6 1 1;arc 6 7 1 1;route 0 1 2 3 4 5 6;", 7).due("route(0, 0)", 7)
                .each("routeArc(0, #)", 0, 1, 2, 3, 4, 5, 6);
        run("promise 3, the routes are numbered as they were told").load(NET + "route 0 1;route 0 4 3;", 5)
                .due("routeArc(0, 0)", 2).due("routeArc(1, 1)", 1).due("routeArc(2, 1)", 4);
        run("promise 3, arcs behind a route").load("net 2 0 1;" + ARC + "route 0;" + ARC + "route 1;" + ARC, 3)
                .due("count(5)", 2).due("routeArc(1, 0)", 1);
        wrong("a route without arcs", "net 2 0 1;" + ARC + "route;", SYNTAX, 27);
        wrong("a word in a route", "net 2 0 1;" + ARC + "route 0 a;", SYNTAX, 30);
        run("promise 3, the last of 16 arcs").load("net 2 0 1;" + ARC.repeat(16) + "route 15;", 16)
                .due("routeArc(0, 0)", 15);
    }

    /** "an arc of a route that does not exist, does not begin where the route is, .." */
    private static void promise3RouteErrors() {
        String head = "net 4 0 3;arc 0 1 1 1;arc 1 2 1 1;arc 2 3 1 1;arc 1 0 1 1;arc 2 1 1 1;arc 3 2 1 1;arc 0 3 1 1;";
        int at = head.length() + 6;
        wrong("an arc that does not exist", head + "route 7;", VALUE, at);
        wrong("a second arc that does not exist", head + "route 0 7;", VALUE, at + 2);
        wrong("an arc far behind the last", head + "route 4294967302;", VALUE, at);
        wrong("the 17th arc", "net 2 0 1;" + ARC.repeat(16) + "route 16;", VALUE, 208);
        wrong("a route without any arcs there", "net 2 0 1;route 0;", VALUE, 16);
        wrong("an arc that comes later", "net 2 0 1;route 0;" + ARC, VALUE, 16);
        wrong("not from the source", head + "route 1;", VALUE, at);
        wrong("not where the route is", head + "route 0 2;", VALUE, at + 2);
        wrong("the same arc again", head + "route 0 0;", VALUE, at + 2);
        wrong("back to the source", head + "route 0  3;", VALUE, at + 3);
        wrong("back to a node on the way", head + "route 0 1 4;", VALUE, at + 4);
        wrong("on behind the target", head + "route 6 5;", VALUE, at + 2);
        wrong("behind the target, an arc that does not exist", head + "route 6 7;", VALUE, at + 2);
        wrong("behind the target, an arc of another node", head + "route 6 0;", VALUE, at + 2);
        wrong("the first digit of two", "net 2 0 1;" + ARC.repeat(11) + "route 0 10;", VALUE, 10 + 11 * 12 + 8);
        right("a route to the target", head + "route 0 1 2;route 6;", 7);
    }

    /** "also the semicolon of a route that has not reached the target", "a route that was told before (at its semicolon)" */
    private static void promise3RouteEnds() {
        String head = "net 4 0 3;arc 0 1 1 1;arc 1 3 1 1;arc 1 3 1 1;";
        int at = head.length() + 6;
        wrong("a semicolon before the target", head + "route 0 ;", SYNTAX, at + 2);
        wrong("an end before the target", head + "route 0", SYNTAX, at + 1);
        wrong("a word before the target", head + "route 0 route", SYNTAX, at + 2);
        wrong("told before", head + "route 0 1;route 0 1;", VALUE, at + 13);
        wrong("told before, spaces in front of the semicolon", head + "route 0 1;route 0 1  ;", VALUE, at + 15);
        wrong("told before, but not the last", head + "route 0 1;route 0 2;route 0 1;", VALUE, at + 23);
        wrong("told before, but without semicolon", head + "route 0 1;route 0 1", SYNTAX, at + 13);
        right("differs in the last arc alone", head + "route 0 1;route 0 2;", 3);
        run("promise 3, routes of the network before do not count").load(NET, 5).load(NET, 5).due("count(5)", 1);
    }

    /** "A word is the longest possible sequence of the letters a to z" */
    private static void promise3Words() {
        wrong("a word that is longer", "nett 2 0 1;", SYNTAX, 0);
        wrong("a word that is shorter", "  ne 2 0 1;", SYNTAX, 2);
        wrong("another letter", "nat 2 0 1;", SYNTAX, 0);
        wrong("a capital letter in front", "Net 2 0 1;", SYNTAX, 0);
        wrong("a capital letter at the end", "neT 2 0 1;", SYNTAX, 0);
        wrong("a capital letter behind a word", "netA 2 0 1;", SYNTAX, 3);
        wrong("another capital letter behind a word", "net 2 0 1;arcZ 0 1 1 1;", SYNTAX, 13);
        wrong("a word of two parts", "ne t 2 0 1;", SYNTAX, 0);
        wrong("arcs", "net 2 0 1; arcs 0 1 1 1;", SYNTAX, 11);
        wrong("ar", "net 2 0 1; ar 0 1 1 1;", SYNTAX, 11);
        wrong("arb", "net 2 0 1; arb 0 1 1 1;", SYNTAX, 11);
        wrong("brc", "net 2 0 1; brc 0 1 1 1;", SYNTAX, 11);
        wrong("arcarc", "net 2 0 1; arcarc 0 1 1 1;", SYNTAX, 11);
        wrong("arcz", "net 2 0 1; arcz 0 1 1 1;", SYNTAX, 11);
        wrong("a sign in front of a", "net 2 0 1; arc` 0 1 1 1;", SYNTAX, 14);
        wrong("a sign behind z", "net 2 0 1; arc{ 0 1 1 1;", SYNTAX, 14);
        wrong("a sign in front of a in front", "net 2 0 1; `arc 0 1 1 1;", SYNTAX, 11);
        wrong("budge", "net 2 0 1; budge 1;", SYNTAX, 11);
        wrong("budgets", "net 2 0 1; budgets 1;", SYNTAX, 11);
        wrong("rout", "net 2 0 1;" + ARC + "rout 0;", SYNTAX, 22);
        wrong("routes", "net 2 0 1;" + ARC + "routes 0;", SYNTAX, 22);
        right("no space behind words and semicolons", "net2 0 1;budget3;arc0 1 2 3;route0;", 1);
        wrong("a word that ends the text", "net 2 0 1; arc 0 1 1 1; ar", SYNTAX, 24);
    }

    /** "N is the longest possible sequence of digits" */
    private static void promise3Numbers() {
        run("promise 3, zeros in front").load("net 0002 00 01;budget 0006;arc 000 001 00099 000000000000000000007;", 1)
                .each("count(#)", 2, 1, 0, 1, 6).each("arc(0, #)", 0, 1, 99, 7);
        wrong("a number that would wrap around to 2", "net 4294967298 0 1;", VALUE, 4);
        wrong("a number that would wrap around to 1", "net 2 0 18446744073709551617;", VALUE, 8);
        wrong("a number that would wrap around to 0", "net 2 0 1;arc 0 1 4294967296 1;", VALUE, 18);
        wrong("a number of 500 digits", "net " + "9".repeat(500) + " 0 1;", VALUE, 4);
        right("a number of 500 zeros", "net 2 " + "0".repeat(500) + " 1;", 0);
        wrong("one digit after the other is one number", "net 201;", VALUE, 4);
        wrong("two digits are one number", "net 2 01;", SYNTAX, 8);
        wrong("a sign in front of 0", "net 2 0 1/;", SYNTAX, 9);
        wrong("a sign behind 9", "net 2 0 1:;", SYNTAX, 9);
        wrong("a sign in front of 0 for a number", "net / 0 1;", SYNTAX, 4);
        wrong("a sign behind 9 for a number", "net : 0 1;", SYNTAX, 4);
        run("promise 3, all digits").load("net 8 0 7;arc 0 6 12 34;arc 5 0 56 78;arc 0 1 90 9;", 3)
                .each("arc(0, #)", 0, 6, 12, 34).each("arc(1, #)", 5, 0, 56, 78).each("arc(2, #)", 0, 1, 90, 9);
    }

    /** "Spaces (byte 32) may stand in front of every token and at the end of the text." */
    private static void promise3Spaces() {
        run("promise 3, spaces in front of every token and at the end")
                .load("   net   3   0   2   ;   budget   1   ;   arc   0   2   1   2   ;   route   0   ;   ", 1)
                .each("count(#)", 3, 1, 0, 2, 1, 1, 0, 1);
        run("promise 3, no spaces where none are needed").load("net3 0 2;budget1;arc0 2 1 2;route0;", 1)
                .each("count(#)", 3, 1, 0, 2, 1, 1, 0, 1);
        right("a space at the end", "net 2 0 1; ", 0);
        wrong("only spaces", "    ", SYNTAX, 4);
        wrong("only spaces, 600 bytes of them", " ".repeat(600), SYNTAX, 600);
        wrong("only one word, 600 bytes of it", "n".repeat(600), SYNTAX, 0);
        wrong("only one number, 600 bytes of it", "0".repeat(600), SYNTAX, 0);
        wrong("byte 31", "net 2 0 1;\u001f", SYNTAX, 10);
        wrong("byte 33", "net 2 0 1;!", SYNTAX, 10);
        wrong("a tabulator", "net\t2 0 1;", SYNTAX, 3);
        wrong("a line's end", "net 2 0 1;\n" + ARC, SYNTAX, 10);
        wrong("byte 160", "net 2 0 1;\u00a0", SYNTAX, 10);
    }

    /** "a byte or token that is not allowed here (at its first byte)" */
    private static void promise3Bytes() {
        for (char sign : new char[] {0, 1, 127, 128, 187, 250, 255, ':', ',', '+'}) {
            wrong("byte " + (int) sign + " in front", sign + "net 2 0 1;", SYNTAX, 0);
            wrong("byte " + (int) sign + " behind a word", "net" + sign + " 2 0 1;", SYNTAX, 3);
            wrong("byte " + (int) sign + " for a number", "net 2 " + sign + " 1;", SYNTAX, 6);
            wrong("byte " + (int) sign + " for a semicolon", "net 2 0 1" + sign, SYNTAX, 9);
            wrong("byte " + (int) sign + " for a statement", "net 2 0 1;" + sign, SYNTAX, 10);
            wrong("byte " + (int) sign + " in a route", "net 2 0 1;" + ARC + "route 0" + sign + ";", SYNTAX, 29);
        }
    }

    /** "an unexpected end of the text (at the length of the text)": the bytes behind it are in the buffer, but not read. */
    private static void promise3EndOfText() {
        String text = "net 3 0 2; budget 1; arc 0 2 11 22; route 0 ;";
        for (int length = 0; length <= text.length(); length++) {
            String begun = text.substring(0, length);
            Run x = run("promise 3, the first " + length + " bytes: " + begun).append(text);
            boolean isRight = begun.strip().endsWith(";");
            boolean isInWord = begun.matches(".*[a-z]") && !begun.matches(".*\\b(net|budget|arc|route)");
            if (isRight) {
                x.due("load(" + length + ")", begun.contains("arc") ? 1 : 0).due("errorPosition()", -1)
                        .due("count(5)", begun.contains("route") ? 1 : 0).due("undo()", 0);
            } else {
                x.due("load(" + length + ")", SYNTAX)
                        .due("errorPosition()", isInWord ? begun.replaceAll("[a-z]+$", "").length() : length)
                        .due("count(0)", 2).due("undo()", "throws." + Run.STATE);
            }
            x.due("load(1)", "throws." + Run.ARGUMENT);
        }
    }

    /** "a 17th arc or a 7th route (at its word)" */
    private static void promise3TooMany() {
        String arcs = "net 2 0 1;" + ARC.repeat(16);
        right("16 arcs", arcs, 16);
        wrong("a 17th arc", arcs + ARC, MANY, 202);
        wrong("the word of a 17th arc", arcs + "  arc", MANY, 204);
        wrong("a 17th arc that is wrong", arcs + "arc 5 5 500 500;", MANY, 202);
        wrong("another word behind 16 arcs", arcs + "arcs", SYNTAX, 202);
        right("a budget behind 16 arcs", arcs + "budget 1;", 16);
        String routes = "net 2 0 1;" + ARC.repeat(7) + "route 0;route 1;route 2;route 3;route 4;route 5;";
        right("6 routes", routes, 7);
        wrong("a 7th route", routes + "route 6;", MANY, routes.length());
        wrong("a 7th route that was told before", routes + " route 0;", MANY, routes.length() + 1);
        wrong("the word of a 7th route", routes + "route", MANY, routes.length());
        wrong("a 7th route that is wrong", routes + "route 9;", MANY, routes.length());
        right("an arc behind 6 routes", routes + ARC, 8);
        wrong("another word behind 6 routes", routes + "routes", SYNTAX, routes.length());
        run("promise 3, the arcs and routes before do not count").load(routes, 7).load(arcs, 16).load(routes, 7);
    }

    /** "Reading stops at the first error." */
    private static void promise3FirstError() {
        wrong("a wrong number before a wrong word", "net 9 0 1;arx", VALUE, 4);
        wrong("a wrong word before a wrong number", "net 2 0 1;arx 2 2 100 100;", SYNTAX, 10);
        wrong("a wrong source before a wrong target", "net 2 5 5;", VALUE, 6);
        wrong("a wrong tail before a missing head", "net 2 0 1;arc 2;", VALUE, 14);
        wrong("a wrong extra before a missing semicolon", "net 2 0 1;arc 0 1 1 100", VALUE, 20);
        wrong("a missing semicolon before a 17th arc", "net 2 0 1;" + ARC.repeat(15) + "arc 0 1 1 1 arc", SYNTAX, 202);
        wrong("a 17th arc before its wrong tail", "net 2 0 1;" + ARC.repeat(16) + "arc 9", MANY, 202);
        wrong("a wrong arc of a route before its end", "net 3 0 1;arc 0 2 1 1;route 0 5", VALUE, 30);
    }

    /** "If several error codes fit the same position, the first one in this list is reported" */
    private static void promise3SamePosition() {
        wrong("a 17th arc where no word may stand", "net 2 0 1;" + ARC.repeat(16) + "budget 1 arc 0 1 1 1;", SYNTAX, 211);
        wrong("a 17th arc where a number must stand", "net 2 0 1;" + ARC.repeat(16) + "budget arc 0 1 1 1;", SYNTAX, 209);
        String routes = "net 2 0 1;" + ARC.repeat(7) + "route 0;route 1;route 2;route 3;route 4;";
        wrong("a 7th route where no word may stand", routes + "route 5 route 6;", SYNTAX, routes.length() + 8);
    }

    /** "the position of the error that the latest call of load found", "NONE if it found no error or if there was no call" */
    private static void promise4() {
        run("promise 4, there was no call").due("errorPosition()", -1).make("append(0, 0, 0, 0, 0)")
                .due("errorPosition()", -1).refuses("load(21)", Run.ARGUMENT).due("errorPosition()", -1);
        run("promise 4, the latest call").load("net 2 0 1;arc 0 0 1 1;", VALUE).due("errorPosition()", 16)
                .refuses("load(1)", Run.ARGUMENT).due("errorPosition()", 16).make("append(0, 0, 0, 0, 0)")
                .due("errorPosition()", 16).due("load(0)", SYNTAX).due("errorPosition()", 0)
                .load("net 2 0 1;", 0).due("errorPosition()", -1).load("net", SYNTAX).due("errorPosition()", 3);
        run("promise 4, it found no error").load(NET, 5).changesNothing("errorPosition()", -1);
        run("promise 4, changes and undo do not matter").load(NET, 5).load("net 2", SYNTAX).make("setBudget(0)")
                .due("errorPosition()", 5).make("undo()").due("errorPosition()", 5).make("undo()")
                .due("errorPosition()", 5).changesNothing("errorPosition()", 5);
        run("promise 4, undo of a load after which there was none").load("net 2", SYNTAX).load(NET, 5).make("undo()")
                .due("errorPosition()", -1);
    }
}
